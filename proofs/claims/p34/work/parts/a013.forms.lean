/-! sums over the ways of taking one thing out of a list, with alternating signs; forms (minors) by them -/
def sR {α : Type} : List α → (α → List α → Int) → Int
  | [], _ => 0
  | v :: vs, g => g v vs - sR vs (fun w r => g w (v :: r))
theorem sR_congr {α : Type} {vs : List α} {g h : α → List α → Int} (e : ∀ v r, g v r = h v r) : sR vs g = sR vs h := by
  have : g = h := funext fun v => funext fun r => e v r
  rw [this]
theorem sR_sub {α : Type} (vs : List α) (g h : α → List α → Int) : sR vs (fun v r => g v r - h v r) = sR vs g - sR vs h := by
  induction vs generalizing g h with
  | nil => rfl
  | cons x vs ih =>
    simp only [sR]
    rw [ih]
    omega
theorem sR_add {α : Type} (vs : List α) (g h : α → List α → Int) : sR vs (fun v r => g v r + h v r) = sR vs g + sR vs h := by
  induction vs generalizing g h with
  | nil => rfl
  | cons x vs ih =>
    simp only [sR]
    rw [ih]
    omega
theorem sR_neg {α : Type} (vs : List α) (g : α → List α → Int) : sR vs (fun v r => - g v r) = - sR vs g := by
  induction vs generalizing g with
  | nil => rfl
  | cons x vs ih =>
    simp only [sR]
    rw [ih]
    omega
theorem sR_mul {α : Type} (vs : List α) (k : Int) (g : α → List α → Int) : sR vs (fun v r => k * g v r) = k * sR vs g := by
  induction vs generalizing g with
  | nil => simp [sR]
  | cons x vs ih =>
    simp only [sR]
    rw [ih, Int.mul_sub]
theorem sR_zero {α : Type} (vs : List α) : sR vs (fun _ _ => 0) = 0 := by
  induction vs with
  | nil => rfl
  | cons x vs ih => simp only [sR]; rw [ih]; rfl
/-- two taken out, in the other order: the sign turns -/
theorem sR_two {α : Type} (vs : List α) (h : α → α → List α → Int) : sR vs (fun v r => sR r (fun w r' => h v w r')) = - sR vs (fun v r => sR r (fun w r' => h w v r')) := by
  induction vs generalizing h with
  | nil => rfl
  | cons x vs ih =>
    simp only [sR]
    rw [sR_sub, sR_sub]
    have := ih (fun v w r => h v w (x :: r))
    have e1 : sR vs (fun w r' => h x w r') = sR vs (h x) := rfl
    have e2 : sR vs (fun w r' => h w x r') = sR vs (fun w => h w x) := rfl
    omega
/-- minors: rows (coordinates) and vectors -/
def dT : List Nat → List (Nat → Int) → Int
  | [], [] => 1
  | [], _ :: _ => 0
  | t :: rows, vs => sR vs (fun v r => v t * dT rows r)
theorem dT_cons (t : Nat) (rows : List Nat) (vs : List (Nat → Int)) : dT (t :: rows) vs = sR vs (fun v r => v t * dT rows r) := by
  simp only [dT]
theorem dT_nil (l1 : List (Nat → Int)) (a : Nat → Int) (l2 : List (Nat → Int)) : dT [] (l1 ++ a :: l2) = 0 := by
  cases l1 <;> rfl
/-- two neighbours that change places: the sign turns -/
theorem sR_swap {α : Type} (pre : List α) (a b : α) (post : List α) (g : α → List α → Int) (hg : ∀ v l1 l2, g v (l1 ++ a :: b :: l2) = - g v (l1 ++ b :: a :: l2)) : sR (pre ++ a :: b :: post) g = - sR (pre ++ b :: a :: post) g := by
  induction pre generalizing g with
  | nil =>
    simp only [List.nil_append, sR]
    have h : sR post (fun w r => g w (a :: b :: r)) = - sR post (fun w r => g w (b :: a :: r)) := by
      rw [← sR_neg]
      exact sR_congr fun v r => hg v [] r
    omega
  | cons p pre ih =>
    simp only [List.cons_append, sR]
    rw [hg p pre post, ih (fun w r => g w (p :: r)) (fun v l1 l2 => hg v (p :: l1) l2)]
    omega
theorem dT_swap (rows : List Nat) (pre : List (Nat → Int)) (a b : Nat → Int) (post : List (Nat → Int)) : dT rows (pre ++ a :: b :: post) = - dT rows (pre ++ b :: a :: post) := by
  induction rows generalizing pre post with
  | nil => rw [dT_nil, dT_nil]; rfl
  | cons t rows ih =>
    rw [dT_cons, dT_cons]
    exact sR_swap pre a b post _ (fun v l1 l2 => by rw [ih l1 l2, Int.mul_neg])
theorem dT_dup (rows : List Nat) (pre : List (Nat → Int)) (a : Nat → Int) (mid post : List (Nat → Int)) : dT rows (pre ++ a :: (mid ++ a :: post)) = 0 := by
  induction mid generalizing pre with
  | nil =>
    have := dT_swap rows pre a a post
    simp only [List.nil_append]
    omega
  | cons b mid ih =>
    have h1 := dT_swap rows pre a b (mid ++ a :: post)
    have h2 := ih (pre ++ [b])
    rw [List.append_assoc] at h2
    simp only [List.cons_append, List.nil_append] at h1 h2 ⊢
    rw [h1, h2]; rfl
/-- a row twice: nothing -/
theorem dT_row (rows : List Nat) (t : Nat) (ht : t ∈ rows) (vs : List (Nat → Int)) : sR vs (fun v r => v t * dT rows r) = 0 := by
  induction rows generalizing vs with
  | nil => exact absurd ht List.not_mem_nil
  | cons r0 rows ih =>
    have e1 : sR vs (fun v r => v t * dT (r0 :: rows) r) = sR vs (fun v r => sR r (fun w r' => v t * (w r0 * dT rows r'))) :=
      sR_congr fun v r => by rw [dT_cons, sR_mul]
    rw [e1]
    rcases List.mem_cons.mp ht with rfl | h
    · have h2 := sR_two vs (fun v w r' => v t * (w t * dT rows r'))
      have h3 : sR vs (fun v r => sR r (fun w r' => w t * (v t * dT rows r'))) = sR vs (fun v r => sR r (fun w r' => v t * (w t * dT rows r'))) :=
        sR_congr fun v r => sR_congr fun w r' => by rw [← Int.mul_assoc, ← Int.mul_assoc, Int.mul_comm (w t)]
      rw [h3] at h2
      omega
    · rw [sR_two]
      have h4 : sR vs (fun v r => sR r (fun w r' => w t * (v r0 * dT rows r'))) = sR vs (fun _ _ => 0) :=
        sR_congr fun v r => by
          have h5 : sR r (fun w r' => w t * (v r0 * dT rows r')) = v r0 * sR r (fun w r' => w t * dT rows r') := by
            rw [← sR_mul]
            exact sR_congr fun w r' => by rw [← Int.mul_assoc, ← Int.mul_assoc, Int.mul_comm (w t)]
          rw [h5, ih h r, Int.mul_zero]
      rw [h4, sR_zero]; rfl
theorem sR_lin {α : Type} (pre : List α) (x u w : α) (p q : Int) (post : List α) (g : α → List α → Int) (h1 : ∀ r, g x r = p * g u r + q * g w r) (h2 : ∀ v l1 l2, g v (l1 ++ x :: l2) = p * g v (l1 ++ u :: l2) + q * g v (l1 ++ w :: l2)) : sR (pre ++ x :: post) g = p * sR (pre ++ u :: post) g + q * sR (pre ++ w :: post) g := by
  induction pre generalizing g with
  | nil =>
    simp only [List.nil_append, sR]
    have h3 : sR post (fun v r => g v (x :: r)) = p * sR post (fun v r => g v (u :: r)) + q * sR post (fun v r => g v (w :: r)) := by
      rw [← sR_mul, ← sR_mul, ← sR_add]
      exact sR_congr fun v r => h2 v [] r
    rw [h1, h3, Int.mul_sub, Int.mul_sub]
    omega
  | cons y pre ih =>
    simp only [List.cons_append, sR]
    rw [h2 y pre post, ih (fun v r => g v (y :: r)) (fun r => h1 (y :: r)) (fun v l1 l2 => h2 v (y :: l1) l2), Int.mul_sub, Int.mul_sub]
    omega
theorem dT_lin (rows : List Nat) (pre : List (Nat → Int)) (u w : Nat → Int) (p q : Int) (post : List (Nat → Int)) : dT rows (pre ++ (fun t => p * u t + q * w t) :: post) = p * dT rows (pre ++ u :: post) + q * dT rows (pre ++ w :: post) := by
  induction rows generalizing pre post with
  | nil => rw [dT_nil, dT_nil, dT_nil]; omega
  | cons t rows ih =>
    rw [dT_cons, dT_cons, dT_cons]
    refine sR_lin pre _ u w p q post _ (fun r => ?_) (fun v l1 l2 => ?_)
    · rw [Int.add_mul, Int.mul_assoc, Int.mul_assoc]
    · rw [ih l1 l2, Int.mul_add, Int.mul_left_comm, Int.mul_left_comm (v t) q]
/-- only the coordinates in rows count -/
theorem sR_alike {α : Type} (pre : List α) (x y : α) (post : List α) (g : α → List α → Int) (h1 : ∀ r, g x r = g y r) (h2 : ∀ v l1 l2, g v (l1 ++ x :: l2) = g v (l1 ++ y :: l2)) : sR (pre ++ x :: post) g = sR (pre ++ y :: post) g := by
  induction pre generalizing g with
  | nil =>
    simp only [List.nil_append, sR]
    have h3 : sR post (fun w r => g w (x :: r)) = sR post (fun w r => g w (y :: r)) := sR_congr fun v r => h2 v [] r
    rw [h1, h3]
  | cons z pre ih =>
    simp only [List.cons_append, sR]
    rw [h2 z pre post, ih (fun v r => g v (z :: r)) (fun r => h1 (z :: r)) (fun v l1 l2 => h2 v (z :: l1) l2)]
theorem dT_alike (rows : List Nat) (pre : List (Nat → Int)) (x y : Nat → Int) (post : List (Nat → Int)) (h : ∀ t ∈ rows, x t = y t) : dT rows (pre ++ x :: post) = dT rows (pre ++ y :: post) := by
  induction rows generalizing pre post with
  | nil => rw [dT_nil, dT_nil]
  | cons t rows ih =>
    rw [dT_cons, dT_cons]
    exact sR_alike pre x y post _ (fun r => by rw [h t List.mem_cons_self]) (fun v l1 l2 => by rw [ih l1 l2 (fun s hs => h s (List.mem_cons_of_mem _ hs))])
/-- the sum over the places of the second list, a standing there -/
def cS (rows : List Nat) (a : Nat → Int) (f : (Nat → Int) → Int) : List (Nat → Int) → List (Nat → Int) → Int
  | _, [] => 0
  | pre, w :: post => f w * dT rows (pre ++ a :: post) + cS rows a f (pre ++ [w]) post
theorem cS_sR (rows : List Nat) (a : Nat → Int) (f : (Nat → Int) → Int) (pre post : List (Nat → Int)) : sR post (fun w r => f w * dT rows (pre ++ a :: r)) = cS rows a f pre post := by
  induction post generalizing pre with
  | nil => rfl
  | cons w post ih =>
    simp only [sR, cS]
    have h : sR post (fun w' r => f w' * dT rows (pre ++ a :: w :: r)) = - sR post (fun w' r => f w' * dT rows ((pre ++ [w]) ++ a :: r)) := by
      rw [← sR_neg]
      exact sR_congr fun v r => by rw [dT_swap, Int.mul_neg, List.append_assoc]; rfl
    rw [h, ih (pre ++ [w])]
    omega
/-- the sum that stands for a vector, in the coordinates of rows -/
theorem cramer (rows : List Nat) (a : Nat → Int) (B : List (Nat → Int)) (t : Nat) (ht : t ∈ rows) : dT rows B * a t = cS rows a (fun w => w t) [] B := by
  have h := dT_row rows t ht (a :: B)
  simp only [sR] at h
  rw [← cS_sR]
  simp only [List.nil_append]
  rw [Int.mul_comm]
  omega
theorem cS_lin (rows : List Nat) (a : Nat → Int) (P Q : List (Nat → Int)) (pre post : List (Nat → Int)) : dT rows (P ++ (fun t => cS rows a (fun w => w t) pre post) :: Q) = cS rows a (fun x => dT rows (P ++ x :: Q)) pre post := by
  induction post generalizing pre with
  | nil =>
    have h := dT_lin rows P (fun _ => 0) (fun _ => 0) 0 0 Q
    simp only [Int.zero_mul, Int.add_zero] at h
    simp only [cS]
    exact h
  | cons w post ih =>
    simp only [cS]
    have h := dT_lin rows P w (fun t => cS rows a (fun w => w t) (pre ++ [w]) post) (dT rows (pre ++ a :: post)) 1 Q
    rw [ih (pre ++ [w])] at h
    have e : (fun t => w t * dT rows (pre ++ a :: post) + cS rows a (fun w => w t) (pre ++ [w]) post) = (fun t => dT rows (pre ++ a :: post) * w t + 1 * cS rows a (fun w => w t) (pre ++ [w]) post) := by
      funext t; rw [Int.mul_comm, Int.one_mul]
    rw [e, h, Int.one_mul, Int.mul_comm]
/-- the same with a form in the place of a coordinate -/
theorem cramer_form (rows : List Nat) (a : Nat → Int) (B P Q : List (Nat → Int)) : dT rows B * dT rows (P ++ a :: Q) = cS rows a (fun x => dT rows (P ++ x :: Q)) [] B := by
  rw [← cS_lin]
  have h := dT_lin rows P a (fun _ => 0) (dT rows B) 0 Q
  simp only [Int.zero_mul, Int.add_zero] at h
  rw [← h]
  exact dT_alike rows P _ _ Q (fun t ht => cramer rows a B t ht)
theorem cS_app (rows : List Nat) (a : Nat → Int) (f : (Nat → Int) → Int) (pre l1 l2 : List (Nat → Int)) (h : ∀ w ∈ l1, f w = 0) : cS rows a f pre (l1 ++ l2) = cS rows a f (pre ++ l1) l2 := by
  induction l1 generalizing pre with
  | nil => simp
  | cons w l1 ih =>
    simp only [List.cons_append, cS]
    rw [h w List.mem_cons_self, Int.zero_mul, Int.zero_add, ih (pre ++ [w]) (fun v hv => h v (List.mem_cons_of_mem _ hv)), List.append_assoc]
    rfl
theorem cS_none (rows : List Nat) (a : Nat → Int) (f : (Nat → Int) → Int) (pre l1 : List (Nat → Int)) (h : ∀ w ∈ l1, f w = 0) : cS rows a f pre l1 = 0 := by
  have := cS_app rows a f pre l1 [] h
  rw [List.append_nil] at this
  rw [this]; rfl
theorem dT_dupP (rows : List Nat) (P M : List (Nat → Int)) (w : Nat → Int) (hw : w ∈ P) : dT rows (P ++ w :: M) = 0 := by
  obtain ⟨s1, s2, rfl⟩ := List.append_of_mem hw
  have := dT_dup rows s1 w s2 M
  simpa [List.append_assoc] using this
theorem dT_dupQ (rows : List Nat) (P Q : List (Nat → Int)) (w : Nat → Int) (hw : w ∈ Q) : dT rows (P ++ w :: Q) = 0 := by
  obtain ⟨s1, s2, rfl⟩ := List.append_of_mem hw
  exact dT_dup rows P w s1 s2
/-- two that are not neighbours change places -/
theorem dT_swap2 (rows : List Nat) (P : List (Nat → Int)) (x y : Nat → Int) (M Q : List (Nat → Int)) : dT rows (P ++ x :: (M ++ y :: Q)) = - dT rows (P ++ y :: (M ++ x :: Q)) := by
  have h := dT_dup rows P (fun t => 1 * x t + 1 * y t) M Q
  rw [dT_lin, show P ++ x :: (M ++ (fun t => 1 * x t + 1 * y t) :: Q) = (P ++ x :: M) ++ (fun t => 1 * x t + 1 * y t) :: Q by simp, show P ++ y :: (M ++ (fun t => 1 * x t + 1 * y t) :: Q) = (P ++ y :: M) ++ (fun t => 1 * x t + 1 * y t) :: Q by simp, dT_lin, dT_lin] at h
  have h1 := dT_dup rows P x M Q
  have h2 := dT_dup rows P y M Q
  have e1 : P ++ x :: (M ++ x :: Q) = (P ++ x :: M) ++ x :: Q := by simp
  have e2 : P ++ y :: (M ++ y :: Q) = (P ++ y :: M) ++ y :: Q := by simp
  have e3 : P ++ x :: (M ++ y :: Q) = (P ++ x :: M) ++ y :: Q := by simp
  have e4 : P ++ y :: (M ++ x :: Q) = (P ++ y :: M) ++ x :: Q := by simp
  rw [e1] at h1; rw [e2] at h2; rw [e3, e4]
  omega
/-- AN EXCHANGE IS EXACT: of a basis P, bi, M, br, Q (bi ahead of br), br leaves for c; the entry of j in bi's row -/
theorem pivot_exact (rows : List Nat) (P M Q : List (Nat → Int)) (bi br c j : Nat → Int) :
    dT rows (P ++ bi :: (M ++ br :: Q)) * dT rows (P ++ j :: (M ++ c :: Q)) =
    dT rows (P ++ j :: (M ++ br :: Q)) * dT rows (P ++ bi :: (M ++ c :: Q)) - dT rows (P ++ c :: (M ++ br :: Q)) * dT rows (P ++ bi :: (M ++ j :: Q)) := by
  have h := cramer_form rows j (P ++ bi :: (M ++ br :: Q)) P (M ++ c :: Q)
  rw [h, cS_app rows j _ [] P _ (fun w hw => dT_dupP rows P _ w hw)]
  simp only [List.nil_append, cS]
  rw [cS_app rows j _ (P ++ [bi]) M _ (fun w hw => dT_dupQ rows P (M ++ c :: Q) w (List.mem_append_left _ hw))]
  simp only [cS]
  rw [cS_none rows j _ _ Q (fun w hw => dT_dupQ rows P (M ++ c :: Q) w (List.mem_append_right _ (List.mem_cons_of_mem _ hw)))]
  have e := dT_swap2 rows P br c M Q
  have e5 : (P ++ [bi] ++ M) ++ j :: Q = P ++ bi :: (M ++ j :: Q) := by simp
  rw [e, e5, Int.add_zero, Int.neg_mul, Int.mul_comm (dT rows (P ++ bi :: (M ++ c :: Q)))]
  omega

/-! how great a minor can be: unit vectors count one, the other rows by their sums -/
theorem sR_map {α β : Type} (V : α → β) (L : List α) (g : β → List β → Int) : sR (L.map V) g = sR L (fun q r => g (V q) (r.map V)) := by
  induction L generalizing g with
  | nil => rfl
  | cons x L ih =>
    simp only [List.map_cons, sR]
    rw [ih]
theorem sR_bd {α : Type} (L : List α) (f : α → List α → Int) (c : α → Nat) (h : ∀ l1 q l2, L = l1 ++ q :: l2 → (f q (l1 ++ l2)).natAbs ≤ c q) : (sR L f).natAbs ≤ (L.map c).sum := by
  induction L generalizing f with
  | nil => simp [sR]
  | cons x L ih =>
    simp only [sR, List.map_cons, List.sum_cons]
    have h1 := h [] x L rfl
    have h2 := ih (fun w r => f w (x :: r)) (fun l1 q l2 e => h (x :: l1) q l2 (by rw [e]; rfl))
    simp only [List.nil_append] at h1
    omega
theorem dT_zero (rows : List Nat) (l1 : List (Nat → Int)) (a : Nat → Int) (l2 : List (Nat → Int)) (h : ∀ t ∈ rows, a t = 0) : dT rows (l1 ++ a :: l2) = 0 := by
  have e := dT_alike rows l1 a (fun t => 0 * a t + 0 * a t) l2 (fun t ht => by rw [h t ht]; rfl)
  rw [e, dT_lin rows l1 a a 0 0 l2]
  omega
/-- how many of L are no unit vectors -/
def nonU (un : Nat → Option Nat) : List Nat → Nat
  | [] => 0
  | q :: L => (match un q with | none => 1 | some _ => 0) + nonU un L
theorem nonU_app (un : Nat → Option Nat) (l1 l2 : List Nat) : nonU un (l1 ++ l2) = nonU un l1 + nonU un l2 := by
  induction l1 with
  | nil => simp [nonU]
  | cons x l ih => simp only [List.cons_append, nonU]; rw [ih]; omega
theorem sum_one {L : List Nat} (hL : L.Nodup) (p b : Nat) : (L.map (fun q => if q = p then b else 0)).sum ≤ b := by
  induction L with
  | nil => simp
  | cons x L ih =>
    rw [List.nodup_cons] at hL
    simp only [List.map_cons, List.sum_cons]
    by_cases e : x = p
    · subst e
      rw [if_pos rfl]
      have z : (L.map (fun q => if q = x then b else 0)).sum = 0 := by
        have : L.map (fun q => if q = x then b else 0) = L.map (fun _ => 0) := List.map_congr_left (fun q hq => if_neg (fun e9 => hL.1 (by rw [← e9]; exact hq)))
        rw [this]
        clear this ih hL
        induction L with
        | nil => rfl
        | cons y L ih => simp only [List.map_cons, List.sum_cons]; omega
      omega
    · rw [if_neg e]; have := ih hL.2; omega
theorem sum_mulc (L : List Nat) (f : Nat → Nat) (c : Nat) : (L.map (fun q => f q * c)).sum = (L.map f).sum * c := by
  induction L with
  | nil => simp
  | cons x L ih => simp only [List.map_cons, List.sum_cons]; rw [ih, Nat.add_mul]
theorem sum_mid (l1 : List Nat) (q : Nat) (l2 : List Nat) (f : Nat → Nat) : ((l1 ++ l2).map f).sum ≤ ((l1 ++ q :: l2).map f).sum := by
  simp only [List.map_append, List.sum_append, List.map_cons, List.sum_cons]; omega
/-- the bound: p rows, of a sum of at most W beside the one column c, which has at most Bc -/
def bF (W Bc c p : Nat) : Nat := (1 + c * (p * Bc)) * W ^ p
theorem bF_mono {W Bc c c' p p' : Nat} (hW : 1 ≤ W) (hc : c ≤ c') (hp : p ≤ p') : bF W Bc c p ≤ bF W Bc c' p' := by
  unfold bF
  exact Nat.mul_le_mul (Nat.add_le_add_left (Nat.mul_le_mul hc (Nat.mul_le_mul_right _ hp)) _) (Nat.pow_le_pow_right hW hp)
theorem bF_step {W Bc c p S B : Nat} (hW : 1 ≤ W) (hS : S ≤ W) (hB : B ≤ Bc) : S * bF W Bc c p + c * (B * bF W Bc 0 p) ≤ bF W Bc c (p + 1) := by
  unfold bF
  rw [Nat.zero_mul, Nat.add_zero, Nat.one_mul, Nat.pow_succ]
  have h1 : S * ((1 + c * (p * Bc)) * W ^ p) ≤ W * ((1 + c * (p * Bc)) * W ^ p) := Nat.mul_le_mul_right _ hS
  have h2 : c * (B * W ^ p) ≤ c * (Bc * W ^ p) * W := by
    refine Nat.le_trans (Nat.mul_le_mul_left _ (Nat.mul_le_mul_right _ hB)) ?_
    exact Nat.le_mul_of_pos_right _ hW
  have h3 : (1 + c * ((p + 1) * Bc)) * (W ^ p * W) = W * ((1 + c * (p * Bc)) * W ^ p) + c * (Bc * W ^ p) * W := by
    rw [show 1 + c * ((p + 1) * Bc) = (1 + c * (p * Bc)) + c * Bc by rw [Nat.add_mul, Nat.one_mul, Nat.mul_add]; omega, Nat.add_mul]
    congr 1
    · rw [← Nat.mul_assoc, Nat.mul_comm]
    · rw [← Nat.mul_assoc, ← Nat.mul_assoc]
  omega
/-- how many of rows are lines -/
def nL (R : Nat) : List Nat → Nat
  | [] => 0
  | t :: l => (if t < R then 1 else 0) + nL R l
theorem sum_zero (L : List Nat) (f : Nat → Nat) (h : ∀ q ∈ L, f q = 0) : (L.map f).sum = 0 := by
  induction L with
  | nil => rfl
  | cons x L ih => simp only [List.map_cons, List.sum_cons]; rw [h x List.mem_cons_self, ih (fun q hq => h q (List.mem_cons_of_mem _ hq))]
theorem sum_add (L : List Nat) (f g : Nat → Nat) : (L.map (fun q => f q + g q)).sum = (L.map f).sum + (L.map g).sum := by
  induction L with
  | nil => rfl
  | cons x L ih => simp only [List.map_cons, List.sum_cons]; rw [ih]; omega
/-- a sum over L with one place of its own -/
theorem sum_but {L : List Nat} (hL : L.Nodup) (p : Nat) (f : Nat → Nat) (X Y : Nat) : (L.map (fun q => if q = p then X else f q * Y)).sum ≤ (L.map (fun q => if q = p then 0 else f q)).sum * Y + X := by
  have e : L.map (fun q => if q = p then X else f q * Y) = L.map (fun q => (if q = p then 0 else f q) * Y + (if q = p then X else 0)) := List.map_congr_left (fun q _ => by
    by_cases h : q = p
    · rw [if_pos h, if_pos h, if_pos h]; omega
    · rw [if_neg h, if_neg h, if_neg h]; omega)
  rw [e, sum_add, sum_mulc]
  have := sum_one hL p X
  omega
theorem dT_bd (V : Nat → Nat → Int) (un : Nat → Option Nat) (hU : ∀ q i, un q = some i → ∀ t, V q t = if t = i then 1 else 0) (W Bc GM cq R g0 : Nat) (hW : 1 ≤ W) (hG : 1 ≤ GM) (hcq : un cq = none) (hg0 : R ≤ g0) :
    ∀ (rows L : List Nat), rows.Nodup → L.Nodup → (∀ t ∈ rows, (∃ q ∈ L, un q = some t) ∨ (t < R ∧ (L.map (fun q => if q = cq then 0 else (V q t).natAbs)).sum ≤ W ∧ (V cq t).natAbs ≤ Bc) ∨ (t = g0 ∧ (L.map (fun q => (V q t).natAbs)).sum ≤ GM)) →
    (dT rows (L.map V)).natAbs ≤ bF W Bc (if cq ∈ L then 1 else 0) (min (nL R rows) (nonU un L)) * (if g0 ∈ rows then GM else 1) := by
  intro rows
  induction rows with
  | nil =>
    intro L _ _ _
    have h1 : 1 ≤ bF W Bc (if cq ∈ L then 1 else 0) (min (nL R []) (nonU un L)) := by
      unfold bF
      exact Nat.mul_le_mul (Nat.le_add_right 1 _) (Nat.one_le_pow _ _ hW)
    cases L with
    | nil => simp only [List.map_nil, dT]; simp at h1 ⊢; exact h1
    | cons x L => simp only [List.map_cons, dT]; simp
  | cons t rows ih =>
    intro L hR hL hh
    rw [List.nodup_cons] at hR
    rw [dT_cons, sR_map]
    have sub : ∀ l1 q l2, L = l1 ++ q :: l2 → (l1 ++ l2).Nodup ∧ q ∉ l1 ++ l2 := by
      intro l1 q l2 e
      rw [e] at hL
      rw [List.nodup_append] at hL ⊢
      obtain ⟨a1, a2, a3⟩ := hL
      rw [List.nodup_cons] at a2
      refine ⟨⟨a1, a2.2, fun x hx y hy => a3 x hx y (List.mem_cons_of_mem _ hy)⟩, fun hq => ?_⟩
      rcases List.mem_append.mp hq with h | h
      · exact a3 q h q List.mem_cons_self rfl
      · exact a2.1 h
    have inL : ∀ l1 q l2, L = l1 ++ q :: l2 → ∀ x, x ∈ l1 ++ l2 → x ∈ L := by
      intro l1 q l2 e x hx
      rw [e]
      rcases List.mem_append.mp hx with h | h
      · exact List.mem_append_left _ h
      · exact List.mem_append_right _ (List.mem_cons_of_mem _ h)
    have inS : ∀ l1 q l2, L = l1 ++ q :: l2 → ∀ x, x ∈ L → x ≠ q → x ∈ l1 ++ l2 := by
      intro l1 q l2 e x hx hne
      rw [e] at hx
      rcases List.mem_append.mp hx with h | h
      · exact List.mem_append_left _ h
      · rcases List.mem_cons.mp h with h | h
        · exact absurd h hne
        · exact List.mem_append_right _ h
    have down : ∀ l1 q l2, L = l1 ++ q :: l2 → (∀ i, un q = some i → i ∉ rows) → (dT rows ((l1 ++ l2).map V)).natAbs ≤ bF W Bc (if cq ∈ l1 ++ l2 then 1 else 0) (min (nL R rows) (nonU un (l1 ++ l2))) * (if g0 ∈ rows then GM else 1) := by
      intro l1 q l2 e hq
      refine ih (l1 ++ l2) hR.2 (sub l1 q l2 e).1 (fun t' ht' => ?_)
      rcases hh t' (List.mem_cons_of_mem _ ht') with ⟨q', hq', eq'⟩ | ⟨h0, h, h2⟩ | ⟨h0, h⟩
      · exact Or.inl ⟨q', inS l1 q l2 e q' hq' (fun e2 => hq t' (by rw [← e2]; exact eq') ht'), eq'⟩
      · right; left; refine ⟨h0, Nat.le_trans (sum_mid l1 q l2 _) ?_, h2⟩; rw [← e]; exact h
      · right; right; refine ⟨h0, Nat.le_trans (sum_mid l1 q l2 _) ?_⟩; rw [← e]; exact h
    have cmono : ∀ l1 q l2, L = l1 ++ q :: l2 → (if cq ∈ l1 ++ l2 then 1 else 0) ≤ (if cq ∈ L then 1 else 0) := by
      intro l1 q l2 e
      by_cases h : cq ∈ l1 ++ l2
      · rw [if_pos h, if_pos (inL l1 q l2 e cq h)]; exact Nat.le_refl _
      · rw [if_neg h]; exact Nat.zero_le _
    have gmono : (if g0 ∈ rows then GM else 1) ≤ (if g0 ∈ t :: rows then GM else 1) := by
      by_cases h1 : g0 ∈ rows
      · rw [if_pos h1, if_pos (List.mem_cons_of_mem _ h1)]; exact Nat.le_refl _
      · rw [if_neg h1]; split <;> omega
    have nmono : nL R rows ≤ nL R (t :: rows) := by simp only [nL]; omega
    by_cases hu : ∃ q ∈ L, un q = some t
    · obtain ⟨qt, hqt, eqt⟩ := hu
      refine Nat.le_trans (sR_bd L _ (fun q => if q = qt then bF W Bc (if cq ∈ L then 1 else 0) (min (nL R rows) (nonU un L)) * (if g0 ∈ rows then GM else 1) else 0) ?_) (Nat.le_trans (sum_one hL qt _) (Nat.mul_le_mul (bF_mono hW (Nat.le_refl _) (by omega)) gmono))
      intro l1 q l2 e
      by_cases e2 : q = qt
      · subst e2
        rw [if_pos rfl, hU q t eqt t, if_pos rfl, Int.one_mul]
        have hn : nonU un L = nonU un (l1 ++ l2) := by rw [e, nonU_app, nonU_app]; simp only [nonU]; rw [eqt]; simp
        rw [hn]
        refine Nat.le_trans (down l1 q l2 e (fun i hi hin => ?_)) (Nat.mul_le_mul_right _ (bF_mono hW (cmono l1 q l2 e) (Nat.le_refl _)))
        rw [eqt] at hi; injection hi with hi; exact hR.1 (by rw [hi]; exact hin)
      · rw [if_neg e2]
        obtain ⟨k1, k2, ek⟩ := List.append_of_mem (inS l1 q l2 e qt hqt (fun h => e2 h.symm))
        have z : dT rows ((l1 ++ l2).map V) = 0 := by
          rw [ek, List.map_append, List.map_cons]
          exact dT_zero rows _ _ _ (fun t' ht' => by rw [hU qt t eqt t', if_neg (fun (e9 : t' = t) => hR.1 (by rw [← e9]; exact ht'))])
        rw [z, Int.mul_zero]; exact Nat.le_refl _
    · have zero : ∀ q, q ∈ L → ∀ i, un q = some i → V q t = 0 := by
        intro q hq i hi
        rw [hU q i hi t, if_neg (fun e2 => hu ⟨q, hq, by rw [hi, e2]⟩)]
      have memq : ∀ l1 q l2, L = l1 ++ q :: l2 → q ∈ L := fun l1 q l2 e => by rw [e]; exact List.mem_append_right _ List.mem_cons_self
      have kq : ∀ l1 q l2, L = l1 ++ q :: l2 → un q = none → nonU un L = nonU un (l1 ++ l2) + 1 := by
        intro l1 q l2 e hq
        rw [e, nonU_app, nonU_app]; simp only [nonU]; rw [hq]; simp only; omega
      rcases hh t List.mem_cons_self with h | ⟨htR, h, hc⟩ | ⟨h0, h⟩
      · exact absurd h hu
      · have hgt : (if g0 ∈ rows then GM else 1) = (if g0 ∈ t :: rows then GM else 1) := by
          by_cases h1 : g0 ∈ rows
          · rw [if_pos h1, if_pos (List.mem_cons_of_mem _ h1)]
          · rw [if_neg h1, if_neg (fun h2 => by rcases List.mem_cons.mp h2 with h3 | h3 <;> first | omega | exact h1 h3)]
        rcases Nat.eq_zero_or_pos (nonU un L) with e0 | e0
        · refine Nat.le_trans (sR_bd L _ (fun _ => 0) (fun l1 q l2 e => ?_)) (by rw [sum_zero L _ (fun _ _ => rfl)]; exact Nat.zero_le _)
          cases hq : un q with
          | some i => rw [zero q (memq l1 q l2 e) i hq, Int.zero_mul]; exact Nat.le_refl _
          | none => have := kq l1 q l2 e hq; omega
        · obtain ⟨p, hp⟩ : ∃ p, p = min (nL R rows) (nonU un L - 1) := ⟨_, rfl⟩
          have hp1 : min (nL R (t :: rows)) (nonU un L) = p + 1 := by simp only [nL]; rw [if_pos htR]; omega
          rw [hp1, ← hgt]
          refine Nat.le_trans (sR_bd L _ (fun q => if q = cq then (if cq ∈ L then 1 else 0) * ((V cq t).natAbs * bF W Bc 0 p) * (if g0 ∈ rows then GM else 1) else (V q t).natAbs * (bF W Bc (if cq ∈ L then 1 else 0) p * (if g0 ∈ rows then GM else 1))) ?_) ?_
          · intro l1 q l2 e
            rw [Int.natAbs_mul]
            cases hq : un q with
            | some i =>
              rw [zero q (memq l1 q l2 e) i hq]; simp
            | none =>
              have hk := kq l1 q l2 e hq
              have hd := down l1 q l2 e (fun i hi => by rw [hq] at hi; exact absurd hi (by simp))
              have hm : min (nL R rows) (nonU un (l1 ++ l2)) = p := by omega
              rw [hm] at hd
              by_cases ec : q = cq
              · have hin : cq ∈ L := by rw [← ec]; exact memq l1 q l2 e
                have hout : cq ∉ l1 ++ l2 := by rw [← ec]; exact (sub l1 q l2 e).2
                rw [if_pos ec, if_pos hin, Nat.one_mul, Nat.mul_assoc, ec]
                rw [if_neg hout] at hd
                exact Nat.mul_le_mul_left _ hd
              · rw [if_neg ec]
                exact Nat.mul_le_mul_left _ (Nat.le_trans hd (Nat.mul_le_mul_right _ (bF_mono hW (cmono l1 q l2 e) (Nat.le_refl _))))
          · refine Nat.le_trans (sum_but hL cq (fun q => (V q t).natAbs) _ _) ?_
            have hs := bF_step (W := W) (Bc := Bc) (c := if cq ∈ L then 1 else 0) (p := p) hW h hc
            refine Nat.le_trans (Nat.le_of_eq ?_) (Nat.mul_le_mul_right (if g0 ∈ rows then GM else 1) hs)
            generalize (List.map (fun q => if q = cq then 0 else (V q t).natAbs) L).sum = S
            rw [Nat.add_mul, Nat.mul_assoc S]
      · have hn : g0 ∉ rows := by rw [← h0]; exact hR.1
        have hgt : (if g0 ∈ t :: rows then GM else 1) = GM := if_pos (by rw [h0]; exact List.mem_cons_self)
        rw [hgt]
        refine Nat.le_trans (sR_bd L _ (fun q => (V q t).natAbs * bF W Bc (if cq ∈ L then 1 else 0) (min (nL R (t :: rows)) (nonU un L))) ?_) ?_
        · intro l1 q l2 e
          rw [Int.natAbs_mul]
          cases hq : un q with
          | some i => rw [zero q (memq l1 q l2 e) i hq]; simp
          | none =>
            have hk := kq l1 q l2 e hq
            have hd := down l1 q l2 e (fun i hi => by rw [hq] at hi; exact absurd hi (by simp))
            rw [if_neg hn, Nat.mul_one] at hd
            exact Nat.mul_le_mul_left _ (Nat.le_trans hd (bF_mono hW (cmono l1 q l2 e) (by omega)))
        · rw [sum_mulc, Nat.mul_comm _ GM]
          exact Nat.mul_le_mul_right _ h

/-- where a name or a sum stands, once it has begun -/
def LaK (k s : Nat) (f54 : Nat → Int32) (f la : Nat) : Prop := (k = 2 ∨ k = 3 ∨ k = 9) → 0 < s → f54 f = nI la
/-- all finished nodes are well formed -/
def VoK (F : Nat → Nat → Int32) (V : Nat → Prop) (wt dp pd : Nat → Nat) (se : Nat) : Prop := ∀ n, V n → n < 4000 ∧ ∃ k, F 29 n = nI k ∧ NdK F V wt dp pd se n k
/-- the frames below the uppermost one, f of them (n, h: node and pile of the frame above them; R: the turns that they have left) -/
def BelO (F : Nat → Nat → Int32) (V : Nat → Prop) (wt dp pd : Nat → Nat) (f52 f53 f54 : Nat → Int32) (D h0 n0 : Nat) : Nat → Nat → Nat → Nat → Prop
  | 0, n, h, R => n = n0 ∧ h = h0 ∧ R = 0
  | f + 1, n, h, R => ∃ n' k' s' la' h' r' R', (V n' ∧ F 29 n' = nI k' ∧ k' ≤ 13) ∧ (f52 f = nI n' ∧ f53 f = nI s' ∧ (k' = 2 ∨ k' = 3 ∨ k' = 9 → f54 f = nI la')) ∧ (h' + pd n' ≤ 80 ∧ f + dp n' ≤ D) ∧ WtO F V wt dp pd n' k' s' la' h' h r' ((F 29 n).toInt ≤ 9) ∧ BelO F V wt dp pd f52 f53 f54 D h0 n0 f n' h' R' ∧ R = 2 * r' + 1 + R'
theorem BelO.congr {F : Nat → Nat → Int32} {V : Nat → Prop} {wt dp pd : Nat → Nat} {f52 f53 f54 g52 g53 g54 : Nat → Int32} {D h0 n0 : Nat} : ∀ (f n h R : Nat), (∀ q, q < f → g52 q = f52 q ∧ g53 q = f53 q ∧ g54 q = f54 q) → BelO F V wt dp pd f52 f53 f54 D h0 n0 f n h R → BelO F V wt dp pd g52 g53 g54 D h0 n0 f n h R
  | 0, _, _, _, _, h => h
  | f + 1, n, h, R, e, b => by
    obtain ⟨n', k', s', la', h', r', R', a1, ⟨a2, a3, a4⟩, a5, a6, a7, a8⟩ := b
    obtain ⟨e1, e2, e3⟩ := e f (Nat.lt_succ_self f)
    exact ⟨n', k', s', la', h', r', R', a1, ⟨e1.trans a2, e2.trans a3, fun q => e3.trans (a4 q)⟩, a5, a6, BelO.congr f n' h' R' (fun q hq => e q (by omega)) a7, a8⟩
/-- the worker's frames: none is left and the value lies on the pile, or the uppermost one has its turn -/
def FrsO (F : Nat → Nat → Int32) (V : Nat → Prop) (wt dp pd : Nat → Nat) (f52 f53 f54 : Nat → Int32) (D h0 n0 fr p mQ : Nat) : Prop :=
  (fr = 0 ∧ ((p = h0 + 1 ∧ (F 29 n0).toInt ≤ 9) ∨ (p = h0 ∧ ¬ (F 29 n0).toInt ≤ 9))) ∨
  ∃ f n k s la h r R, fr = f + 1 ∧ (V n ∧ F 29 n = nI k ∧ k ≤ 13) ∧ (f52 f = nI n ∧ f53 f = nI s ∧ LaK k s f54 f la) ∧ TopO F V wt dp pd n k s la h p r ∧ BelO F V wt dp pd f52 f53 f54 D h0 n0 f n h R ∧ (f + dp n ≤ D ∧ h + pd n ≤ 80) ∧ 2 * r + 1 + R ≤ mQ
theorem WtO.lin {F : Nat → Nat → Int32} {V : Nat → Prop} {wt dp pd : Nat → Nat} {n k s la h hn r : Nat} {p q : Prop} (h1 : WtO F V wt dp pd n k s la h hn r p) (e : p ↔ q) : WtO F V wt dp pd n k s la h hn r q := (propext e) ▸ h1
theorem StpO.fr {F : Nat → Nat → Int32} {V : Nat → Prop} {wt dp pd : Nat → Nat} {n k f h r fr2 p2 : Nat} {f52 f53 f54 g52 g53 g54 : Nat → Int32} (h : StpO F V wt dp pd n k f h r f52 f53 f54 g52 g53 g54 fr2 p2) : fr2 ≤ f + 2 := by
  rcases h.2 with h9 | h9 | h9
  · have := h9.1; omega
  · have := h9.1; omega
  · have := h9.1; omega
theorem FrsO.step {F : Nat → Nat → Int32} {V : Nat → Prop} {wt dp pd : Nat → Nat} {se n k f h r R D h0 n0 fr2 p2 mQ : Nat} {f52 f53 f54 g52 g53 g54 : Nat → Int32} (hV : VoK F V wt dp pd se) (hVn : V n) (hk : F 29 n = nI k) (hk13 : k ≤ 13) (h52 : f52 f = nI n) (hB : BelO F V wt dp pd f52 f53 f54 D h0 n0 f n h R) (hD : f + dp n ≤ D) (h80 : h + pd n ≤ 80) (hm : 2 * r + 1 + R ≤ mQ) (hS : StpO F V wt dp pd n k f h r f52 f53 f54 g52 g53 g54 fr2 p2) : FrsO F V wt dp pd g52 g53 g54 D h0 n0 fr2 p2 (mQ - 1) := by
  obtain ⟨hE, hS⟩ := hS
  have hkT : (F 29 n).toInt = k := by rw [hk]; exact nI_toInt (by omega)
  rcases hS with ⟨a1, a2⟩ | ⟨a1, a2, c, s', la', r', b1, b2, b3, b4, b5, b6, b7, b8, b9⟩ | ⟨a1, a2, s', la', r', b1, b2, b3, b4⟩
  · match f, hB, hE with
    | 0, hB, _ =>
      obtain ⟨rfl, rfl, _⟩ := hB
      refine Or.inl ⟨a1, ?_⟩
      by_cases h9 : k ≤ 9
      · exact Or.inl ⟨by rw [if_pos h9] at a2; exact a2, by omega⟩
      · exact Or.inr ⟨by rw [if_neg h9] at a2; exact a2, by omega⟩
    | f + 1, hB, hE =>
      obtain ⟨n', k', s', la', h', r', R', c1, ⟨c2, c3, c4⟩, c5, c6, c7, c8⟩ := hB
      obtain ⟨e1, e2, e3⟩ := hE f (Nat.lt_succ_self f)
      refine Or.inr ⟨f, n', k', s', la', h', r', R', a1, c1, ⟨e1.trans c2, e2.trans c3, fun q _ => e3.trans (c4 q)⟩, ?_, BelO.congr f n' h' R' (fun q hq => hE q (by omega)) c7, c5.symm, by omega⟩
      by_cases h9 : k ≤ 9
      · rw [if_pos h9] at a2
        exact Or.inr (Or.inr (Or.inl ⟨h, c6.lin ⟨fun _ => trivial, fun _ => by omega⟩, a2⟩))
      · rw [if_neg h9] at a2
        have a3 : p2 = h := a2
        subst a3
        exact Or.inr (Or.inr (Or.inr (c6.lin ⟨fun q => by omega, fun q => q.elim⟩)))
  · obtain ⟨_, k9, d1, d2⟩ := hV c b5
    exact Or.inr ⟨f + 1, c, k9, 0, 0, p2, wt c, 2 * r' + 1 + R, a1, ⟨b5, d1, d2.k13⟩, ⟨b1, b2.trans nI_0.symm, fun _ q => absurd q (by omega)⟩, Or.inl ⟨rfl, rfl, Nat.le_refl _⟩,
      ⟨n, k, s', la', h, r', R, ⟨hVn, hk, hk13⟩, ⟨a2.trans h52, b3, b4⟩, ⟨h80, hD⟩, b8, BelO.congr f n h R hE hB, rfl⟩, ⟨by omega, by omega⟩, by omega⟩
  · exact Or.inr ⟨f, n, k, s', la', h, r', R, a1, ⟨hVn, hk, hk13⟩, ⟨a2.trans h52, b1, fun q _ => b2 q⟩, b3, BelO.congr f n h R hE hB, ⟨hD, h80⟩, by omega⟩
/-- one call stands, and nothing below it -/
theorem FrsO.first {F : Nat → Nat → Int32} {V : Nat → Prop} {wt dp pd : Nat → Nat} {se D h0 n0 : Nat} {f52 f53 f54 : Nat → Int32} (hV : VoK F V wt dp pd se) (hn : V n0) (h52 : f52 0 = nI n0) (h53 : f53 0 = 0) (hD : dp n0 ≤ D) (h80 : h0 + pd n0 ≤ 80) : FrsO F V wt dp pd f52 f53 f54 D h0 n0 1 h0 (2 * wt n0 + 1) := by
  obtain ⟨_, k9, d1, d2⟩ := hV n0 hn
  exact Or.inr ⟨0, n0, k9, 0, 0, h0, wt n0, 0, rfl, ⟨hn, d1, d2.k13⟩, ⟨h52, h53.trans nI_0.symm, fun _ q => absurd q (by omega)⟩, Or.inl ⟨rfl, rfl, Nat.le_refl _⟩, ⟨rfl, rfl, rfl⟩, ⟨by omega, h80⟩, by omega⟩
theorem FrsO.top {F : Nat → Nat → Int32} {V : Nat → Prop} {wt dp pd : Nat → Nat} {f52 f53 f54 : Nat → Int32} {D h0 n0 fr p mQ : Nat} (h : FrsO F V wt dp pd f52 f53 f54 D h0 n0 fr p mQ) (hf : 0 < fr) :
  ∃ f n k s la h r R, fr = f + 1 ∧ (V n ∧ F 29 n = nI k ∧ k ≤ 13) ∧ (f52 f = nI n ∧ f53 f = nI s ∧ LaK k s f54 f la) ∧ TopO F V wt dp pd n k s la h p r ∧ BelO F V wt dp pd f52 f53 f54 D h0 n0 f n h R ∧ (f + dp n ≤ D ∧ h + pd n ≤ 80) ∧ 2 * r + 1 + R ≤ mQ :=
  h.resolve_left (fun q => absurd q.1 (by omega))
theorem FrsO.done {F : Nat → Nat → Int32} {V : Nat → Prop} {wt dp pd : Nat → Nat} {f52 f53 f54 : Nat → Int32} {D h0 n0 fr p mQ : Nat} (h : FrsO F V wt dp pd f52 f53 f54 D h0 n0 fr p mQ) (hf : fr = 0) : (p = h0 + 1 ∧ (F 29 n0).toInt ≤ 9) ∨ (p = h0 ∧ ¬ (F 29 n0).toInt ≤ 9) :=
  (h.resolve_right (fun ⟨_, _, _, _, _, _, _, _, q, _⟩ => absurd q (by omega))).2
theorem nIinj {a b : Nat} (ha : a < 4000) (hb : b < 4000) (h : nI a = nI b) : a = b := kidE ⟨rfl, ha⟩ ⟨h, hb⟩

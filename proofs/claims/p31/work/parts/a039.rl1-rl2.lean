section
/-! the reader's tree as it grows -/
def FrL (T T' : Nat → Int32) (n : Int) : Prop := ∀ i : Int, 0 ≤ i → i < n → i % 7 ≠ 1 → i % 7 ≠ 2 → twL T' i = twL T i
theorem FrL.rf {T : Nat → Int32} {n : Int} : FrL T T n := fun _ _ _ _ _ => rfl
theorem FrL.tr {T T1 T2 : Nat → Int32} {n m : Int} (h : FrL T T1 n) (h2 : FrL T1 T2 m) (hm : n ≤ m) : FrL T T2 n := fun i a b c d => (h2 i a (by omega) c d).trans (h i a b c d)
def WrL (T T' : Nat → Int32) (e x : Int) : Prop := ∀ i : Int, 0 ≤ i → twL T' i = if i = e then x else twL T i
theorem WrL.of {T : Nat → Int32} {E : Int} {x : Int32} (h1 : 0 ≤ E) (h2 : E ≤ 2147483647) : WrL T (upd T (iI E).toNatClampNeg x) E x.toInt := fun i hi => by
  have e := iI_t (E := E) (by omega) h2
  rw [tw_upd (by rw [e]; exact h1) hi, e]
theorem WrL.of0 {T : Nat → Int32} {E : Int} {x : Int32} (h1 : 0 ≤ E) (h2 : E ≤ 2147483647) : WrL T (upd T (iI (E + 0)).toNatClampNeg x) E x.toInt := by rw [Int.add_zero]; exact WrL.of h1 h2
theorem WrL.ofr {T : Nat → Int32} {n x : Int32} (h1 : 0 ≤ n.toInt) : WrL T (upd T n.toNatClampNeg x) n.toInt x.toInt := fun i hi => tw_upd h1 hi
theorem WrL.eq {T T' : Nat → Int32} {e x : Int} (h : WrL T T' e x) (he : 0 ≤ e) : twL T' e = x := by rw [h e he, if_pos rfl]
theorem WrL.ne {T T' : Nat → Int32} {e x i : Int} (h : WrL T T' e x) (hi : 0 ≤ i) (hne : i ≠ e) : twL T' i = twL T i := by rw [h i hi, if_neg hne]
theorem WrL.fr {T T' : Nat → Int32} {e x n : Int} (h : WrL T T' e x) (hn : n ≤ e) : FrL T T' n := fun i a b _ _ => h.ne a (by omega)
/-- a new node -/
def NwL (T T' : Nat → Int32) (n k : Int) : Prop := FrL T T' n ∧ twL T' n = k ∧ twL T' (n + 3) = 0 ∧ twL T' (n + 4) = 0 ∧ twL T' (n + 5) = 0 ∧ twL T' (n + 6) = 0
/-- a link to what follows; marks and places do not count -/
def LkL (T T' : Nat → Int32) (x f : Int) : Prop := twL T' (x + 6) = f ∧ ∀ i : Int, 0 ≤ i → i ≠ x + 6 → i % 7 ≠ 1 → i % 7 ≠ 2 → twL T' i = twL T i
theorem LkL.of {T T' : Nat → Int32} {x f : Int} (h : WrL T T' (x + 6) f) (hx : 0 ≤ x) : LkL T T' x f := ⟨h.eq (by omega), fun i a b _ _ => h.ne a b⟩
theorem LkL.more {T T' T2 : Nat → Int32} {x f e v : Int} (h : LkL T T' x f) (h2 : WrL T' T2 e v) (he : e % 7 = 1 ∨ e % 7 = 2) (hx : x % 7 = 0) (h0 : 0 ≤ x) : LkL T T2 x f := ⟨by rw [h2.ne (by omega) (by omega)]; exact h.1, fun i a b c d => by rw [h2.ne a (by omega)]; exact h.2 i a b c d⟩
section
variable {V V' : Int → Nat → Nat → Prop} {T T' T0 T1 T2 T3 fk fo fw : Nat → Int32} {nm lo u n m x f : Int} {L k : Nat} {l l1 l2 : List (Int × Nat × Nat)}
theorem NdL.mono (hs : ∀ n k L, V n k L → V' n k L) (hd : NdL V T fk fo fw nm n L k) : NdL V' T fk fo fw nm n L k := by
  rcases hd with ⟨h, g⟩ | ⟨h, g⟩ | ⟨h, g⟩ | ⟨h, g⟩ | ⟨h, g⟩ | ⟨h, g⟩ | ⟨h, g⟩ | ⟨h, g⟩ <;> subst h
  · exact Or.inl ⟨rfl, hs _ _ _ g⟩
  · exact Or.inr (Or.inl ⟨rfl, hs _ _ _ g⟩)
  · refine Or.inr (Or.inr (Or.inl ⟨rfl, ?_⟩))
    rcases g with g | g | g | g | g | g
    · exact Or.inl g
    · exact Or.inr (Or.inl g)
    · exact Or.inr (Or.inr (Or.inl ⟨g.1, g.2.1, g.2.2.1, g.2.2.2.1, fun h => ⟨hs _ _ _ (g.2.2.2.2 h).1, fun h2 => hs _ _ _ ((g.2.2.2.2 h).2 h2)⟩⟩))
    · exact Or.inr (Or.inr (Or.inr (Or.inl ⟨g.1, hs _ _ _ g.2⟩)))
    · exact Or.inr (Or.inr (Or.inr (Or.inr (Or.inl ⟨g.1, hs _ _ _ g.2⟩))))
    · exact Or.inr (Or.inr (Or.inr (Or.inr (Or.inr ⟨g.1, hs _ _ _ g.2.1, g.2.2.1.imp id (hs _ _ _), hs _ _ _ g.2.2.2⟩))))
  · exact Or.inr (Or.inr (Or.inr (Or.inl ⟨rfl, g⟩)))
  · exact Or.inr (Or.inr (Or.inr (Or.inr (Or.inl ⟨rfl, hs _ _ _ g⟩))))
  · exact Or.inr (Or.inr (Or.inr (Or.inr (Or.inr (Or.inl ⟨rfl, hs _ _ _ g⟩)))))
  · refine Or.inr (Or.inr (Or.inr (Or.inr (Or.inr (Or.inr (Or.inl ⟨rfl, ?_⟩))))))
    rcases g with g | g | g
    · exact Or.inl ⟨g.1, hs _ _ _ g.2⟩
    · exact Or.inr (Or.inl ⟨g.1, hs _ _ _ g.2⟩)
    · exact Or.inr (Or.inr ⟨g.1, hs _ _ _ g.2.1, hs _ _ _ g.2.2⟩)
  · exact Or.inr (Or.inr (Or.inr (Or.inr (Or.inr (Or.inr (Or.inr ⟨rfl, hs _ _ _ g.1, hs _ _ _ g.2⟩))))))
theorem NdL.cg (hd : NdL V T fk fo fw nm n L k) (h0 : twL T' n = twL T n) (h3 : twL T' (n + 3) = twL T (n + 3)) (h4 : twL T' (n + 4) = twL T (n + 4)) (h5 : twL T' (n + 5) = twL T (n + 5)) : NdL V T' fk fo fw nm n L k := by
  unfold NdL at hd ⊢
  rw [h0, h3, h4, h5]; exact hd
/-- some nodes, from lo to u, those of l among them -/
def TrE (T fk fo fw : Nat → Int32) (nm lo u : Int) (l : List (Int × Nat × Nat)) : Prop := ∃ V : Int → Nat → Nat → Prop, TrL V T fk fo fw nm lo u ∧ (∀ n k L k' L', V n k L → V n k' L' → k = k' ∧ L = L') ∧ ∀ x ∈ l, V x.1 x.2.1 x.2.2
theorem TrE.nil : TrE T fk fo fw nm lo u [] := ⟨fun _ _ _ => False, fun _ _ _ h => h.elim, fun _ _ _ _ _ h => h.elim, fun _ h => nomatch h⟩
theorem TrE.sub (h : TrE T fk fo fw nm lo u l) (hl : ∀ x ∈ l1, x ∈ l) : TrE T fk fo fw nm lo u l1 := by
  obtain ⟨V, a, b, c⟩ := h
  exact ⟨V, a, b, fun x hx => c x (hl x hx)⟩
theorem TrE.cg (h : TrE T fk fo fw nm lo u l) (hf : ∀ i : Int, lo ≤ i → 0 ≤ i → i < u → i % 7 ≠ 1 → i % 7 ≠ 2 → twL T' i = twL T i) : TrE T' fk fo fw nm lo u l := by
  obtain ⟨V, a, b, c⟩ := h
  refine ⟨V, fun n k L hn => ?_, b, c⟩
  obtain ⟨r, x, d⟩ := a n k L hn
  refine ⟨r, ?_, d.cg (hf _ (by omega) (by omega) (by omega) (by omega) (by omega)) (hf _ (by omega) (by omega) (by omega) (by omega) (by omega)) (hf _ (by omega) (by omega) (by omega) (by omega) (by omega)) (hf _ (by omega) (by omega) (by omega) (by omega) (by omega))⟩
  rw [hf _ (by omega) (by omega) (by omega) (by omega) (by omega)]; exact x
theorem TrE.cat (h1 : TrE T fk fo fw nm lo m l1) (hf : FrL T T' m) (h2 : TrE T' fk fo fw nm m u l2) (hlm : lo ≤ m) (hm : m ≤ u) : TrE T' fk fo fw nm lo u (l1 ++ l2) := by
  obtain ⟨V2, a2, b2, c2⟩ := h2
  have h1' : TrE T' fk fo fw nm lo m l1 := h1.cg (fun i _ hb hc hd he => hf i hb hc hd he)
  obtain ⟨V1, a1, b1, c1⟩ := h1'
  refine ⟨fun n k L => V1 n k L ∨ V2 n k L, fun n k L hn => ?_, fun n k L k' L' h h' => ?_, fun x hx => ?_⟩
  · rcases hn with hn | hn
    · obtain ⟨r, x, d⟩ := a1 n k L hn
      exact ⟨by omega, x.imp id Or.inl, d.mono (fun _ _ _ => Or.inl)⟩
    · obtain ⟨r, x, d⟩ := a2 n k L hn
      exact ⟨by omega, x.imp id Or.inr, d.mono (fun _ _ _ => Or.inr)⟩
  · rcases h with h | h <;> rcases h' with h' | h'
    · exact b1 _ _ _ _ _ h h'
    · have := (a1 _ _ _ h).1; have := (a2 _ _ _ h').1; omega
    · have := (a2 _ _ _ h).1; have := (a1 _ _ _ h').1; omega
    · exact b2 _ _ _ _ _ h h'
  · rcases List.mem_append.mp hx with hx | hx
    · exact Or.inl (c1 x hx)
    · exact Or.inr (c2 x hx)
theorem TrE.add (h : TrE T fk fo fw nm (n + 7) u l) (hn : 7 ≤ n) (h7 : n % 7 = 0) (hu : n + 7 ≤ u) (hL : L ≤ 25) (hx : twL T (n + 6) = 0) (hd : ∀ V : Int → Nat → Nat → Prop, (∀ x ∈ l, V x.1 x.2.1 x.2.2) → NdL V T fk fo fw nm n L k) : TrE T fk fo fw nm n u [(n, k, L)] := by
  obtain ⟨V, a, b, c⟩ := h
  refine ⟨fun n' k' L' => V n' k' L' ∨ (n' = n ∧ k' = k ∧ L' = L), fun n' k' L' h9 => ?_, fun n1 k1 L1 k2 L2 h h' => ?_, fun x hx => ?_⟩
  · rcases h9 with h9 | ⟨rfl, rfl, rfl⟩
    · obtain ⟨r, x, d⟩ := a n' k' L' h9
      exact ⟨by omega, x.imp id Or.inl, d.mono (fun _ _ _ => Or.inl)⟩
    · exact ⟨⟨Int.le_refl _, hn, hu, hL, h7⟩, Or.inl hx, (hd V c).mono (fun _ _ _ => Or.inl)⟩
  · rcases h with h | h <;> rcases h' with h' | h'
    · exact b _ _ _ _ _ h h'
    · have := (a _ _ _ h).1; omega
    · have := (a _ _ _ h').1; omega
    · omega
  · rw [List.mem_singleton] at hx
    subst hx
    exact Or.inr ⟨rfl, rfl, rfl⟩
theorem TrE.lnk (h : TrE T fk fo fw nm lo u l) (hx : (x, k, L) ∈ l) (hf : (f, k, L) ∈ l) (hw : LkL T T' x f) : TrE T' fk fo fw nm lo u l := by
  obtain ⟨V, a, b, c⟩ := h
  have vx := c _ hx
  have vf := c _ hf
  dsimp only at vx vf
  have rx := (a _ _ _ vx).1
  refine ⟨V, fun n k' L' hn => ?_, b, c⟩
  obtain ⟨r, y, d⟩ := a n k' L' hn
  refine ⟨r, ?_, d.cg (hw.2 _ (by omega) (by omega) (by omega) (by omega)) (hw.2 _ (by omega) (by omega) (by omega) (by omega)) (hw.2 _ (by omega) (by omega) (by omega) (by omega)) (hw.2 _ (by omega) (by omega) (by omega) (by omega))⟩
  by_cases h9 : n = x
  · subst h9
    obtain ⟨rfl, rfl⟩ := b _ _ _ _ _ hn vx
    rw [hw.1]; exact Or.inr vf
  · rw [hw.2 _ (by omega) (by omega) (by omega) (by omega)]; exact y
theorem TrE.rg (h : TrE T fk fo fw nm lo u l) (hx : (x, k, L) ∈ l) : lo ≤ x ∧ 7 ≤ x ∧ x + 7 ≤ u ∧ L ≤ 25 ∧ x % 7 = 0 := by
  obtain ⟨V, a, b, c⟩ := h
  exact (a _ _ _ (c _ hx)).1
/-- a node under way: n of kind kd, its parts behind it -/
def UnL (T0 T fk fo fw : Nat → Int32) (nm n kd u : Int) (l : List (Int × Nat × Nat)) : Prop := FrL T0 T n ∧ twL T n = kd ∧ twL T (n + 6) = 0 ∧ TrE T fk fo fw nm (n + 7) u l ∧ n + 7 ≤ u ∧ 7 ≤ n ∧ n % 7 = 0
theorem UnL.new {kd : Int} (h : NwL T0 T1 n kd) (hn : 7 ≤ n) (h7 : n % 7 = 0) : UnL T0 T1 fk fo fw nm n kd (n + 7) [] := ⟨h.1, h.2.1, h.2.2.2.2.2, TrE.nil, Int.le_refl _, hn, h7⟩
theorem UnL.call {kd u' : Int} (h : UnL T0 T fk fo fw nm n kd u l) (hf : FrL T T' u) (ht : TrE T' fk fo fw nm u u' l1) (hu : u ≤ u') : UnL T0 T' fk fo fw nm n kd u' (l ++ l1) := by
  obtain ⟨a, b, c, d, e, g, h7⟩ := h
  exact ⟨a.tr hf (by omega), by rw [hf _ (by omega) (by omega) (by omega) (by omega)]; exact b, by rw [hf _ (by omega) (by omega) (by omega) (by omega)]; exact c, d.cat hf ht e hu, by omega, g, h7⟩
theorem UnL.put {kd e x : Int} (h : UnL T0 T fk fo fw nm n kd u l) (hw : WrL T T' e x) (h1 : n + 1 ≤ e) (h2 : e ≤ n + 5) : UnL T0 T' fk fo fw nm n kd u l := by
  obtain ⟨a, b, c, d, e', g, h7⟩ := h
  exact ⟨a.tr (hw.fr (n := n) (by omega)) (Int.le_refl _), by rw [hw.ne (by omega) (by omega)]; exact b, by rw [hw.ne (by omega) (by omega)]; exact c, d.cg (fun i p q r _ _ => hw.ne q (by omega)), e', g, h7⟩
theorem UnL.mark {kd e x : Int} (h : UnL T0 T fk fo fw nm n kd u l) (hw : WrL T T' e x) (h1 : n + 7 ≤ e) (h2 : e % 7 = 1 ∨ e % 7 = 2) : UnL T0 T' fk fo fw nm n kd u l := by
  obtain ⟨a, b, c, d, e', g, h7⟩ := h
  exact ⟨a.tr (hw.fr (n := n) (by omega)) (Int.le_refl _), by rw [hw.ne (by omega) (by omega)]; exact b, by rw [hw.ne (by omega) (by omega)]; exact c, d.cg (fun i p q r s t => hw.ne q (by omega)), e', g, h7⟩
theorem UnL.sub {kd : Int} (h : UnL T0 T fk fo fw nm n kd u l) (hl : ∀ x ∈ l1, x ∈ l) : UnL T0 T fk fo fw nm n kd u l1 := ⟨h.1, h.2.1, h.2.2.1, h.2.2.2.1.sub hl, h.2.2.2.2⟩
theorem UnL.lnk {kd : Int} (h : UnL T0 T fk fo fw nm n kd u l) (hx : (x, k, L) ∈ l) (hf : (f, k, L) ∈ l) (hw : LkL T T' x f) : UnL T0 T' fk fo fw nm n kd u l := by
  obtain ⟨a, b, c, d, e', g, h7⟩ := h
  have rx := d.rg hx
  exact ⟨fun i p q r s => by rw [hw.2 i p (by omega) r s]; exact a i p q r s, by rw [hw.2 _ (by omega) (by omega) (by omega) (by omega)]; exact b, by rw [hw.2 _ (by omega) (by omega) (by omega) (by omega)]; exact c, d.lnk hx hf hw, e', g, h7⟩
/-- what a finished node is -/
def FiL (T0 T fk fo fw : Nat → Int32) (nm n u : Int) (k L : Nat) : Prop := FrL T0 T n ∧ twL T (n + 6) = 0 ∧ TrE T fk fo fw nm n u [(n, k, L)] ∧ n + 7 ≤ u
theorem UnL.fin {kd : Int} (h : UnL T0 T fk fo fw nm n kd u l) (hL : L ≤ 25) (hd : ∀ V : Int → Nat → Nat → Prop, (∀ x ∈ l, V x.1 x.2.1 x.2.2) → twL T n = kd → NdL V T fk fo fw nm n L k) : FiL T0 T fk fo fw nm n u k L := by
  obtain ⟨a, b, c, d, e', g, h7⟩ := h
  exact ⟨a, c, d.add g h7 e' hL c (fun V hV => hd V hV b), e'⟩
end
/-- a run of c nodes from h to x -/
def ChE (T fk fo fw : Nat → Int32) (nm lo u h x : Int) (c : Nat) : Prop := ∃ V : Int → Nat → Nat → Prop, TrL V T fk fo fw nm lo u ∧ (∀ n k L k' L', V n k L → V n k' L' → k = k' ∧ L = L') ∧ (∀ j : Nat, j < c → V (NxL T h j) 1 1) ∧ (∃ d : Nat, c = d + 1 ∧ NxL T h d = x) ∧ twL T (x + 6) = 0
theorem ChE.one {T fk fo fw : Nat → Int32} {nm lo u n : Int} (h : TrE T fk fo fw nm lo u [(n, 1, 1)]) (hx : twL T (n + 6) = 0) : ChE T fk fo fw nm lo u n n 1 := by
  obtain ⟨V, a, b, c⟩ := h
  refine ⟨V, a, b, fun j hj => ?_, ⟨0, rfl, rfl⟩, hx⟩
  obtain rfl : j = 0 := by omega
  exact c _ (List.mem_singleton.mpr rfl)
theorem NxL.cg {T T' : Nat → Int32} {h : Int} {d : Nat} (hs : ∀ j : Nat, j < d → twL T' (NxL T h j + 6) = twL T (NxL T h j + 6)) : ∀ j : Nat, j ≤ d → NxL T' h j = NxL T h j := by
  intro j
  induction j with
  | zero => intro _; rfl
  | succ j ih =>
    intro hj
    show twL T' (NxL T' h j + 6) = twL T (NxL T h j + 6)
    rw [ih (by omega)]
    exact hs j (by omega)
theorem ChE.step {T T' T2 fk fo fw : Nat → Int32} {nm lo u u' h x f : Int} {c : Nat} (hc : ChE T fk fo fw nm lo u h x c) (hlo : 0 ≤ lo) (hlu : lo ≤ u) (hf : FrL T T' u) (ht : TrE T' fk fo fw nm u u' [(f, 1, 1)]) (hu : u ≤ u') (h0 : twL T' (f + 6) = 0) (hw : LkL T' T2 x f) : ChE T2 fk fo fw nm lo u' h f (c + 1) := by
  obtain ⟨V, a, b, g, ⟨d, rfl, hd⟩, hx⟩ := hc
  have vx : V x 1 1 := by rw [← hd]; exact g d (by omega)
  have rx := (a _ _ _ vx).1
  have t1 : TrE T fk fo fw nm lo u [(x, 1, 1)] := ⟨V, a, b, fun y hy => by rw [List.mem_singleton] at hy; subst hy; exact vx⟩
  obtain ⟨V2, a2, b2, c2⟩ := ht
  have vf : V2 f 1 1 := c2 _ (List.mem_singleton.mpr rfl)
  have rf := (a2 _ _ _ vf).1
  have fr : ∀ n : Int, lo ≤ n → n + 7 ≤ u → n % 7 = 0 → ∀ q : Int, (q = 0 ∨ q = 3 ∨ q = 4 ∨ q = 5 ∨ q = 6) → twL T' (n + q) = twL T (n + q) := fun n h1 h2 h3 q hq => hf _ (by omega) (by omega) (by omega) (by omega)
  have lk : ∀ n : Int, 0 ≤ n → n % 7 = 0 → ∀ q : Int, (q = 0 ∨ q = 3 ∨ q = 4 ∨ q = 5) → twL T2 (n + q) = twL T' (n + q) := fun n h1 h3 q hq => hw.2 _ (by omega) (by omega) (by omega) (by omega)
  have nl : ∀ n : Int, 0 ≤ n → n % 7 = 0 → n ≠ x → twL T2 (n + 6) = twL T' (n + 6) := fun n h1 h3 h4 => hw.2 _ (by omega) (by omega) (by omega) (by omega)
  have z : ∀ (T : Nat → Int32) (n : Int), twL T (n + 0) = twL T n := fun T n => by rw [Int.add_zero]
  have nx : ∀ j : Nat, j ≤ d → NxL T2 h j = NxL T h j := NxL.cg (fun j hj => by
    have vj := g j (by omega)
    have rj := (a _ _ _ vj).1
    have hne : NxL T h j ≠ x := fun h9 => by
      have e1 : NxL T h (j + 1) = twL T (NxL T h j + 6) := rfl
      rw [h9, hx] at e1
      have := (a _ _ _ (g (j + 1) (by omega))).1
      omega
    rw [nl _ (by omega) (by omega) hne, fr _ (by omega) (by omega) (by omega) 6 (by omega)])
  have nd : NxL T2 h (d + 1) = f := by
    show twL T2 (NxL T2 h d + 6) = f
    rw [nx d (Nat.le_refl _), hd]; exact hw.1
  refine ⟨fun n k L => V n k L ∨ V2 n k L, fun n k L hn => ?_, fun n k L k' L' h1 h2 => ?_, fun j hj => ?_, ⟨d + 1, rfl, nd⟩, ?_⟩
  · rcases hn with hn | hn
    · obtain ⟨r, y, e⟩ := a n k L hn
      refine ⟨by omega, ?_, (e.cg (T' := T2) ?_ ?_ ?_ ?_).mono (fun _ _ _ => Or.inl)⟩
      · by_cases h9 : n = x
        · subst h9
          obtain ⟨rfl, rfl⟩ := b _ _ _ _ _ hn vx
          rw [hw.1]; exact Or.inr (Or.inr vf)
        · rw [nl n (by omega) (by omega) h9, fr n (by omega) (by omega) (by omega) 6 (by omega)]; exact y.imp id Or.inl
      · rw [← z T2 n, ← z T n, lk n (by omega) (by omega) 0 (by omega), fr n (by omega) (by omega) (by omega) 0 (by omega)]
      · rw [lk n (by omega) (by omega) 3 (by omega), fr n (by omega) (by omega) (by omega) 3 (by omega)]
      · rw [lk n (by omega) (by omega) 4 (by omega), fr n (by omega) (by omega) (by omega) 4 (by omega)]
      · rw [lk n (by omega) (by omega) 5 (by omega), fr n (by omega) (by omega) (by omega) 5 (by omega)]
    · obtain ⟨r, y, e⟩ := a2 n k L hn
      refine ⟨by omega, ?_, (e.cg (T' := T2) ?_ ?_ ?_ ?_).mono (fun _ _ _ => Or.inr)⟩
      · rw [nl n (by omega) (by omega) (by omega)]; exact y.imp id Or.inr
      · rw [← z T2 n, ← z T' n, lk n (by omega) (by omega) 0 (by omega)]
      · rw [lk n (by omega) (by omega) 3 (by omega)]
      · rw [lk n (by omega) (by omega) 4 (by omega)]
      · rw [lk n (by omega) (by omega) 5 (by omega)]
  · rcases h1 with h1 | h1 <;> rcases h2 with h2 | h2
    · exact b _ _ _ _ _ h1 h2
    · have := (a _ _ _ h1).1; have := (a2 _ _ _ h2).1; omega
    · have := (a2 _ _ _ h1).1; have := (a _ _ _ h2).1; omega
    · exact b2 _ _ _ _ _ h1 h2
  · by_cases h9 : j = d + 1
    · subst h9; rw [nd]; exact Or.inr vf
    · rw [nx j (by omega)]; exact Or.inl (g j (by omega))
  · rw [nl f (by omega) (by omega) (by omega)]; exact h0
theorem ChE.use {T fk fo fw : Nat → Int32} {nm lo u h x : Int} {c : Nat} (hc : ChE T fk fo fw nm lo u h x c) : ∃ V : Int → Nat → Nat → Prop, TrL V T fk fo fw nm lo u ∧ ChL V T h c := by
  obtain ⟨V, a, b, g, ⟨d, rfl, hd⟩, hx⟩ := hc
  refine ⟨V, a, g, ?_⟩
  show twL T (NxL T h d + 6) = 0
  rw [hd]; exact hx
theorem WrL.ofx {T : Nat → Int32} {E : Int} {x : Int32} {X : Int} (hx : x.toInt = X) (h1 : 0 ≤ E) (h2 : E ≤ 2147483647) : WrL T (upd T (iI E).toNatClampNeg x) E X := hx ▸ WrL.of h1 h2
theorem WrL.ofx0 {T : Nat → Int32} {E : Int} {x : Int32} {X : Int} (hx : x.toInt = X) (h1 : 0 ≤ E) (h2 : E ≤ 2147483647) : WrL T (upd T (iI (E + 0)).toNatClampNeg x) E X := hx ▸ WrL.of0 h1 h2
theorem WrL.ofxr {T : Nat → Int32} {n x : Int32} {X : Int} (hx : x.toInt = X) (h1 : 0 ≤ n.toInt) : WrL T (upd T n.toNatClampNeg x) n.toInt X := hx ▸ WrL.ofr h1
/-- noughts from m to j -/
def ZrL (T : Nat → Int32) (m j : Int) : Prop := ∀ i : Int, m ≤ i → i < j → twL T i = 0
theorem ZrL.nil {T : Nat → Int32} {m j : Int} (h : j ≤ m) : ZrL T m j := fun i a b => absurd b (by omega)
theorem ZrL.step {T T' : Nat → Int32} {m j j' : Int} (h : ZrL T m j) (hw : WrL T T' j 0) (h0 : 0 ≤ m) (hj : j' = j + 1) : ZrL T' m j' := fun i a b => by
  rw [hw i (by omega)]
  by_cases h9 : i = j
  · rw [if_pos h9]
  · rw [if_neg h9]; exact h i a (by omega)
theorem NwL.mk {T0 T T1 T2 : Nat → Int32} {n j k a e1 : Int} (hf : FrL T0 T n) (hz : ZrL T n j) (h1 : WrL T T1 n k) (h2 : WrL T1 T2 e1 a) (he : e1 = n + 1) (hj : n + 7 ≤ j) (h0 : 0 ≤ n) : NwL T0 T2 n k := by
  subst he
  have q : ∀ d : Int, 2 ≤ d → d < 7 → twL T2 (n + d) = 0 := fun d a b => by
    rw [h2.ne (by omega) (by omega), h1.ne (by omega) (by omega)]; exact hz _ (by omega) (by omega)
  refine ⟨?_, ?_, q 3 (by omega) (by omega), q 4 (by omega) (by omega), q 5 (by omega) (by omega), q 6 (by omega) (by omega)⟩
  · exact (hf.tr (h1.fr (n := n) (Int.le_refl _)) (Int.le_refl _)).tr (h2.fr (n := n) (by omega)) (Int.le_refl _)
  · rw [h2.ne (by omega) (by omega)]; exact h1.eq h0
section
variable {T T' T0 T1 T2 T3 T4 fk fo fw : Nat → Int32} {nm lo u u' n m x e kd : Int} {L k : Nat} {l : List (Int × Nat × Nat)}
theorem FiL.fr (h : FiL T0 T fk fo fw nm n u k L) : FrL T0 T n := h.1
/-- a first part is hung in -/
theorem UnL.first (h : NwL T0 T1 n kd) (hn : 7 ≤ n) (h7 : n % 7 = 0) (hm : m = n + 7) (hf : FiL T1 T2 fk fo fw nm m u k L) (hw : WrL T2 T3 e x) (he : e = n + 3) (hx : x = m) : UnL T0 T3 fk fo fw nm n kd u [(twL T3 (n + 3), k, L), (x, k, L)] ∧ twL T3 (x + 6) = 0 := by
  subst he; subst hx; subst hm
  have a := (UnL.new (fk := fk) (fo := fo) (fw := fw) (nm := nm) h hn h7).call hf.1 hf.2.2.1 (by have := hf.2.2.2; omega)
  have b := a.put hw (by omega) (by omega)
  rw [hw.eq (by omega)]
  exact ⟨b.sub (fun x hx => by simpa using hx), by rw [hw.ne (by omega) (by omega)]; exact hf.2.1⟩
/-- one more is linked -/
theorem UnL.step (h : UnL T0 T fk fo fw nm n kd u [(twL T (n + 3), k, L), (x, k, L)]) (hf : FiL T T' fk fo fw nm u u' k L) (hw : LkL T' T2 x m) (hm : m = u) : UnL T0 T2 fk fo fw nm n kd u' [(twL T2 (n + 3), k, L), (m, k, L)] ∧ twL T2 (m + 6) = 0 := by
  subst hm
  have r := h.2.2.2.1.rg (x := x) (k := k) (L := L) (by simp)
  have r7 := h.2.2.2.2
  have a := h.call hf.1 hf.2.2.1 (by have := hf.2.2.2; omega)
  have b := a.lnk (x := x) (f := m) (k := k) (L := L) (by simp) (by simp) hw
  have e3 : twL T2 (n + 3) = twL T (n + 3) := by rw [hw.2 _ (by omega) (by omega) (by omega) (by omega)]; exact hf.1 _ (by omega) (by omega) (by omega) (by omega)
  rw [e3]
  refine ⟨b.sub (fun y hy => ?_), ?_⟩
  · rcases List.mem_cons.mp hy with h9 | h9
    · rw [h9]; simp
    · rw [List.mem_singleton.mp h9]; simp
  · have rf := hf.2.2.1.rg (x := m) (k := k) (L := L) (by simp)
    rw [hw.2 _ (by omega) (by omega) (by omega) (by omega)]; exact hf.2.1
/-- a node with one part -/
theorem FiL.one {kc Lc : Nat} (h : NwL T0 T1 n kd) (hn : 7 ≤ n) (h7 : n % 7 = 0) (hL : L ≤ 25) (hm : m = n + 7) (hf : FiL T1 T2 fk fo fw nm m u kc Lc) (hw : WrL T2 T3 e x) (he : e = n + 3) (hx : x = m) (hd : ∀ V : Int → Nat → Nat → Prop, V (twL T3 (n + 3)) kc Lc → twL T3 n = kd → NdL V T3 fk fo fw nm n L k) : FiL T0 T3 fk fo fw nm n u k L := by
  have a := (UnL.first h hn h7 hm hf hw he hx).1
  exact a.fin hL (fun V hV e => hd V (hV (twL T3 (n + 3), kc, Lc) (by simp)) e)
/-- a node of itself -/
theorem FiL.leaf (h : NwL T0 T1 n kd) (hn : 7 ≤ n) (h7 : n % 7 = 0) (hL : L ≤ 25) (hw : WrL T1 T2 e x) (he : e = n + 3) (hu : u = n + 7) (hd : ∀ V : Int → Nat → Nat → Prop, twL T2 (n + 3) = x → twL T2 n = kd → NdL V T2 fk fo fw nm n L k) : FiL T0 T2 fk fo fw nm n u k L := by
  subst he; subst hu
  exact ((UnL.new (fk := fk) (fo := fo) (fw := fw) (nm := nm) h hn h7).put hw (by omega) (by omega)).fin hL (fun V _ e => hd V (hw.eq (by omega)) e)
theorem UnL.fin1 (h : UnL T0 T fk fo fw nm n kd u [(twL T (n + 3), 2, L), (x, 2, L)]) (hL : L ≤ 25) : FiL T0 T fk fo fw nm n u 1 L := h.fin hL (fun V hV e => Or.inl ⟨rfl, hV (twL T (n + 3), 2, L) (by simp)⟩)
theorem UnL.fin2 (h : UnL T0 T fk fo fw nm n kd u [(twL T (n + 3), 3, L + 1), (x, 3, L + 1)]) (hL : L ≤ 25) : FiL T0 T fk fo fw nm n u 2 L := h.fin hL (fun V hV e => Or.inr (Or.inl ⟨rfl, hV (twL T (n + 3), 3, L + 1) (by simp)⟩))
theorem UnL.fin10 (h : UnL T0 T fk fo fw nm n kd u [(twL T (n + 3), 11, L), (x, 11, L)]) (hL : L ≤ 25) : FiL T0 T fk fo fw nm n u 10 L := h.fin hL (fun V hV e => Or.inr (Or.inr (Or.inr (Or.inr (Or.inl ⟨rfl, hV (twL T (n + 3), 11, L) (by simp)⟩)))))
theorem UnL.fin11 (h : UnL T0 T fk fo fw nm n kd u [(twL T (n + 3), 12, L), (x, 12, L)]) (hL : L ≤ 25) : FiL T0 T fk fo fw nm n u 11 L := h.fin hL (fun V hV e => Or.inr (Or.inr (Or.inr (Or.inr (Or.inr (Or.inl ⟨rfl, hV (twL T (n + 3), 12, L) (by simp)⟩))))))
theorem nd3 {V : Int → Nat → Nat → Prop} (h : twL T n = 3) : NdL V T fk fo fw nm n L 3 := Or.inr (Or.inr (Or.inl ⟨rfl, Or.inl h⟩))
theorem nd4 {V : Int → Nat → Nat → Prop} (h : twL T n = 4) (h1 : 0 ≤ twL T (n + 3)) (h2 : twL T (n + 3) ≤ 63) : NdL V T fk fo fw nm n L 3 := Or.inr (Or.inr (Or.inl ⟨rfl, Or.inr (Or.inl ⟨h, h1, h2⟩)⟩))
theorem nd6 {V : Int → Nat → Nat → Prop} (h : twL T n = 6) (hv : V (twL T (n + 3)) 3 (L + 1)) : NdL V T fk fo fw nm n L 3 := Or.inr (Or.inr (Or.inl ⟨rfl, Or.inr (Or.inr (Or.inr (Or.inl ⟨h, hv⟩)))⟩))
theorem nd7 {V : Int → Nat → Nat → Prop} (h : twL T n = 7) (hv : V (twL T (n + 3)) 1 (L + 1)) : NdL V T fk fo fw nm n L 3 := Or.inr (Or.inr (Or.inl ⟨rfl, Or.inr (Or.inr (Or.inr (Or.inr (Or.inl ⟨h, hv⟩))))⟩))
theorem nd12 {V : Int → Nat → Nat → Prop} (h : twL T n = 12) (hv : V (twL T (n + 3)) 12 (L + 1)) : NdL V T fk fo fw nm n L 12 := Or.inr (Or.inr (Or.inr (Or.inr (Or.inr (Or.inr (Or.inl ⟨rfl, Or.inl ⟨h, hv⟩⟩))))))
theorem nd13 {V : Int → Nat → Nat → Prop} (h : twL T n = 13) (hv : V (twL T (n + 3)) 10 (L + 1)) : NdL V T fk fo fw nm n L 12 := Or.inr (Or.inr (Or.inr (Or.inr (Or.inr (Or.inr (Or.inl ⟨rfl, Or.inr (Or.inl ⟨h, hv⟩)⟩))))))
theorem nd14 {V : Int → Nat → Nat → Prop} (h : twL T n = 14) (hv : V (twL T (n + 3)) 1 (L + 1)) (hw : V (twL T (n + 4)) 1 (L + 1)) : NdL V T fk fo fw nm n L 12 := Or.inr (Or.inr (Or.inr (Or.inr (Or.inr (Or.inr (Or.inl ⟨rfl, Or.inr (Or.inr ⟨h, hv, hw⟩)⟩))))))
theorem ndw {V : Int → Nat → Nat → Prop} (hv : V (twL T (n + 3)) 1 (L + 1)) (hw : V (twL T (n + 4)) 1 (L + 1)) : NdL V T fk fo fw nm n L 14 := Or.inr (Or.inr (Or.inr (Or.inr (Or.inr (Or.inr (Or.inr ⟨rfl, hv, hw⟩))))))
theorem nd9 {V : Int → Nat → Nat → Prop} (h : StL fk fw nm (twL T (n + 3))) (h1 : 0 ≤ twL T (n + 5)) (h2 : twL T (n + 5) ≤ 63) (h3 : twL T (n + 4) = -1 ∨ (StL fk fw nm (twL T (n + 4)) ∧ twL T (n + 5) ≤ 62)) : NdL V T fk fo fw nm n L 9 := Or.inr (Or.inr (Or.inr (Or.inl ⟨rfl, h, h1, h2, h3⟩)))
theorem nd8 {V : Int → Nat → Nat → Prop} (h : twL T n = 8) (h1 : V (twL T (n + 3)) 9 L) (h2 : twL T (n + 4) = 0 ∨ V (twL T (n + 4)) 10 (L + 1)) (h3 : V (twL T (n + 5)) 3 (L + 1)) : NdL V T fk fo fw nm n L 3 := Or.inr (Or.inr (Or.inl ⟨rfl, Or.inr (Or.inr (Or.inr (Or.inr (Or.inr ⟨h, h1, h2, h3⟩))))⟩))
theorem nd5 {V : Int → Nat → Nat → Prop} (h : twL T n = 5) (h1 : 0 ≤ twL T (n + 3)) (h2 : twL T (n + 3) < nm) (h3 : twL fk (twL T (n + 3)) ≠ 1 ∧ twL fk (twL T (n + 3)) ≠ 5) (h4 : twL fo (twL T (n + 3)) ≠ -1 → V (twL T (n + 4)) 1 (L + 1) ∧ (twL fw (twL T (n + 3)) ≠ -1 → V (twL T (n + 5)) 1 (L + 1))) : NdL V T fk fo fw nm n L 3 := Or.inr (Or.inr (Or.inl ⟨rfl, Or.inr (Or.inr (Or.inl ⟨h, h1, h2, h3, h4⟩))⟩))
end
end
section
section
variable {T T' T0 T1 T2 T3 T4 T5 T6 fk fo fw : Nat → Int32} {nm lo u u' n m x e kd : Int} {L k : Nat} {l : List (Int × Nat × Nat)}
/-- a binding of one name -/
theorem FiL.bd1 {e1 e2 e3 z s : Int} (h : NwL T0 T1 n 9) (hn : 7 ≤ n) (h7 : n % 7 = 0) (hL : L ≤ 25) (h1 : WrL T1 T2 e1 z) (he1 : e1 = n + 5) (h2 : WrL T2 T3 e2 s) (he2 : e2 = n + 3) (h3 : WrL T3 T4 e3 (-1)) (he3 : e3 = n + 4) (hz : 0 ≤ z ∧ z ≤ 63) (hs : StL fk fw nm s) (hu : u = n + 7) : FiL T0 T4 fk fo fw nm n u 9 L := by
  subst he1; subst he2; subst he3; subst hu
  have a := (((UnL.new (fk := fk) (fo := fo) (fw := fw) (nm := nm) h hn h7).put h1 (by omega) (by omega)).put h2 (by omega) (by omega)).put h3 (by omega) (by omega)
  have x3 : twL T4 (n + 3) = s := by rw [h3.ne (by omega) (by omega)]; exact h2.eq (by omega)
  have x5 : twL T4 (n + 5) = z := by rw [h3.ne (by omega) (by omega), h2.ne (by omega) (by omega)]; exact h1.eq (by omega)
  exact a.fin hL (fun V _ _ => nd9 (by rw [x3]; exact hs) (by rw [x5]; exact hz.1) (by rw [x5]; exact hz.2) (Or.inl (h3.eq (by omega))))
theorem FiL.bd2 {e1 e2 e3 e4 z s w : Int} (h : NwL T0 T1 n 9) (hn : 7 ≤ n) (h7 : n % 7 = 0) (hL : L ≤ 25) (h1 : WrL T1 T2 e1 z) (he1 : e1 = n + 5) (h2 : WrL T2 T3 e2 s) (he2 : e2 = n + 3) (h3 : WrL T3 T4 e3 (-1)) (he3 : e3 = n + 4) (h4 : WrL T4 T5 e4 w) (he4 : e4 = n + 4) (hz : 0 ≤ z ∧ z ≤ 62) (hs : StL fk fw nm s) (hw : StL fk fw nm w) (hu : u = n + 7) : FiL T0 T5 fk fo fw nm n u 9 L := by
  subst he1; subst he2; subst he3; subst he4; subst hu
  have a := ((((UnL.new (fk := fk) (fo := fo) (fw := fw) (nm := nm) h hn h7).put h1 (by omega) (by omega)).put h2 (by omega) (by omega)).put h3 (by omega) (by omega)).put h4 (by omega) (by omega)
  have x3 : twL T5 (n + 3) = s := by rw [h4.ne (by omega) (by omega), h3.ne (by omega) (by omega)]; exact h2.eq (by omega)
  have x5 : twL T5 (n + 5) = z := by rw [h4.ne (by omega) (by omega), h3.ne (by omega) (by omega), h2.ne (by omega) (by omega)]; exact h1.eq (by omega)
  have x4 : twL T5 (n + 4) = w := h4.eq (by omega)
  exact a.fin hL (fun V _ _ => nd9 (by rw [x3]; exact hs) (by rw [x5]; exact hz.1) (by rw [x5]; omega) (Or.inr ⟨by rw [x4]; exact hw, by rw [x5]; exact hz.2⟩))
/-- a comparison before it is hung in -/
def CpL (T0 T fk fo fw : Nat → Int32) (nm n u : Int) (L : Nat) : Prop := UnL T0 T fk fo fw nm n 14 u [(twL T (n + 3), 1, L + 1), (twL T (n + 4), 1, L + 1)]
theorem CpL.mk {T7 : Nat → Int32} {m2 e1 e2 e3 x1 x2 x3 : Int} (h : NwL T0 T1 n 14) (hn : 7 ≤ n) (h7 : n % 7 = 0) (hm : m = n + 7) (hf : FiL T1 T2 fk fo fw nm m u 1 (L + 1)) (h1 : WrL T2 T3 e1 x1) (he1 : e1 = n + 3) (hx1 : x1 = m) (h2 : WrL T3 T4 e2 x2) (he2 : e2 = n + 2) (hf2 : FiL T4 T5 fk fo fw nm u u' 1 (L + 1)) (h3 : WrL T5 T6 e3 x3) (he3 : e3 = n + 4) (hx3 : x3 = u) : CpL T0 T6 fk fo fw nm n u' L := by
  subst he1; subst he2; subst he3; subst hm; subst hx1; subst hx3
  have g1 := hf.2.2.2
  have a := ((UnL.new (fk := fk) (fo := fo) (fw := fw) (nm := nm) h hn h7).call hf.1 hf.2.2.1 (by omega)).put h1 (by omega) (by omega)
  have b := ((a.put h2 (by omega) (by omega)).call hf2.1 hf2.2.2.1 (by have := hf2.2.2.2; omega)).put h3 (by omega) (by omega)
  have y3 : twL T6 (n + 3) = n + 7 := by rw [h3.ne (by omega) (by omega), hf2.1 _ (by omega) (by omega) (by omega) (by omega), h2.ne (by omega) (by omega)]; exact h1.eq (by omega)
  have y4 : twL T6 (n + 4) = x3 := h3.eq (by omega)
  unfold CpL
  rw [y3, y4]
  exact b.sub (fun y hy => by simpa using hy)
theorem CpL.fin12 (h : CpL T0 T fk fo fw nm n u L) (hL : L ≤ 25) : FiL T0 T fk fo fw nm n u 12 L := UnL.fin h hL (fun V hV e => nd14 e (hV (twL T (n + 3), 1, L + 1) (by simp)) (hV (twL T (n + 4), 1, L + 1) (by simp)))
theorem CpL.fin14 (h : CpL T0 T fk fo fw nm n u L) (hL : L ≤ 25) : FiL T0 T fk fo fw nm n u 14 L := UnL.fin h hL (fun V hV e => ndw (hV (twL T (n + 3), 1, L + 1) (by simp)) (hV (twL T (n + 4), 1, L + 1) (by simp)))
/-- a sum: its binding stands -/
theorem UnL.sum1 {e1 e2 x1 x2 : Int} (h : NwL T0 T1 n 8) (hn : 7 ≤ n) (h7 : n % 7 = 0) (hm : m = n + 7) (hf : FiL T1 T2 fk fo fw nm m u 9 L) (h1 : WrL T2 T3 e1 x1) (he1 : e1 = m + 1) (h2 : WrL T3 T4 e2 x2) (he2 : e2 = n + 3) (hx2 : x2 = m) : UnL T0 T4 fk fo fw nm n 8 u [(twL T4 (n + 3), 9, L)] ∧ twL T4 (n + 4) = 0 := by
  subst he1; subst he2; subst hm; subst hx2
  have g1 := hf.2.2.2
  have a := (UnL.new (fk := fk) (fo := fo) (fw := fw) (nm := nm) h hn h7).call hf.1 hf.2.2.1 (by omega)
  have b := (a.mark h1 (by omega) (by omega)).put h2 (by omega) (by omega)
  rw [h2.eq (by omega)]
  refine ⟨b.sub (fun y hy => by simpa using hy), ?_⟩
  rw [h2.ne (by omega) (by omega), h1.ne (by omega) (by omega), hf.1 _ (by omega) (by omega) (by omega) (by omega)]
  exact h.2.2.2.1
/-- a sum: its truth stands, or there is none -/
def SmL (T0 T fk fo fw : Nat → Int32) (nm n u : Int) (L : Nat) : Prop := (UnL T0 T fk fo fw nm n 8 u [(twL T (n + 3), 9, L)] ∧ twL T (n + 4) = 0) ∨ UnL T0 T fk fo fw nm n 8 u [(twL T (n + 3), 9, L), (twL T (n + 4), 10, L + 1)]
theorem SmL.truth {e1 x1 : Int} (h : UnL T0 T fk fo fw nm n 8 u [(twL T (n + 3), 9, L)]) (hf : FiL T T1 fk fo fw nm u u' 10 (L + 1)) (h1 : WrL T1 T2 e1 x1) (he1 : e1 = n + 4) (hx1 : x1 = u) : SmL T0 T2 fk fo fw nm n u' L := by
  subst he1; subst hx1
  have r7 := h.2.2.2.2
  have b := (h.call hf.1 hf.2.2.1 (by have := hf.2.2.2; omega)).put h1 (by omega) (by omega)
  have y3 : twL T2 (n + 3) = twL T (n + 3) := by rw [h1.ne (by omega) (by omega), hf.1 _ (by omega) (by omega) (by omega) (by omega)]
  refine Or.inr ?_
  rw [y3, h1.eq (by omega)]
  exact b.sub (fun y hy => by simpa using hy)
theorem SmL.fin {e1 x1 : Int} (h : SmL T0 T fk fo fw nm n u L) (hL : L ≤ 25) (hf : FiL T T1 fk fo fw nm u u' 3 (L + 1)) (h1 : WrL T1 T2 e1 x1) (he1 : e1 = n + 5) (hx1 : x1 = u) : FiL T0 T2 fk fo fw nm n u' 3 L := by
  subst he1; subst hx1
  have y : ∀ d : Int, (d = 3 ∨ d = 4) → n + 7 ≤ x1 → n % 7 = 0 → 7 ≤ n → twL T2 (n + d) = twL T (n + d) := fun d hd a b c => by rw [h1.ne (by omega) (by omega), hf.1 _ (by omega) (by omega) (by omega) (by omega)]
  have hh := hf.2.2.2
  rcases h with ⟨h, h4⟩ | h
  · obtain ⟨ra, rb, rc⟩ := h.2.2.2.2
    have b := (h.call hf.1 hf.2.2.1 (by omega)).put h1 (by omega) (by omega)
    refine b.fin hL (fun V hV e => nd8 e ?_ (Or.inl ?_) ?_)
    · rw [y 3 (by omega) ra rc rb]; exact hV (twL T (n + 3), 9, L) (by simp)
    · rw [y 4 (by omega) ra rc rb]; exact h4
    · rw [h1.eq (by omega)]; exact hV (x1, 3, L + 1) (by simp)
  · obtain ⟨ra, rb, rc⟩ := h.2.2.2.2
    have b := (h.call hf.1 hf.2.2.1 (by omega)).put h1 (by omega) (by omega)
    refine b.fin hL (fun V hV e => nd8 e ?_ (Or.inr ?_) ?_)
    · rw [y 3 (by omega) ra rc rb]; exact hV (twL T (n + 3), 9, L) (by simp)
    · rw [y 4 (by omega) ra rc rb]; exact hV (twL T (n + 4), 10, L + 1) (by simp)
    · rw [h1.eq (by omega)]; exact hV (x1, 3, L + 1) (by simp)
/-- a name: its places -/
def NnL (T0 T fk fo fw : Nat → Int32) (nm n u x : Int) (l : List (Int × Nat × Nat)) : Prop := UnL T0 T fk fo fw nm n 5 u l ∧ twL T (n + 3) = x
theorem NnL.mk {e1 x1 : Int} (h : NwL T0 T1 n 5) (hn : 7 ≤ n) (h7 : n % 7 = 0) (h1 : WrL T1 T2 e1 x1) (he1 : e1 = n + 3) (hu : u = n + 7) : NnL T0 T2 fk fo fw nm n u x1 [] := by
  subst he1; subst hu
  exact ⟨(UnL.new (fk := fk) (fo := fo) (fw := fw) (nm := nm) h hn h7).put h1 (by omega) (by omega), h1.eq (by omega)⟩
theorem NnL.one {e1 x1 : Int} (h : NnL T0 T fk fo fw nm n u x []) (hf : FiL T T1 fk fo fw nm u u' 1 (L + 1)) (h1 : WrL T1 T2 e1 x1) (he1 : e1 = n + 4) (hx1 : x1 = u) : NnL T0 T2 fk fo fw nm n u' x [(twL T2 (n + 4), 1, L + 1)] := by
  subst he1; subst hx1
  obtain ⟨h, hx⟩ := h
  have r7 := h.2.2.2.2
  have b := (h.call hf.1 hf.2.2.1 (by have := hf.2.2.2; omega)).put h1 (by omega) (by omega)
  rw [h1.eq (by omega)]
  exact ⟨b.sub (fun y hy => by simpa using hy), by rw [h1.ne (by omega) (by omega), hf.1 _ (by omega) (by omega) (by omega) (by omega)]; exact hx⟩
theorem NnL.two {e1 x1 : Int} (h : NnL T0 T fk fo fw nm n u x [(twL T (n + 4), 1, L + 1)]) (hf : FiL T T1 fk fo fw nm u u' 1 (L + 1)) (h1 : WrL T1 T2 e1 x1) (he1 : e1 = n + 5) (hx1 : x1 = u) : NnL T0 T2 fk fo fw nm n u' x [(twL T2 (n + 4), 1, L + 1), (twL T2 (n + 5), 1, L + 1)] := by
  subst he1; subst hx1
  obtain ⟨h, hx⟩ := h
  have r7 := h.2.2.2.2
  have b := (h.call hf.1 hf.2.2.1 (by have := hf.2.2.2; omega)).put h1 (by omega) (by omega)
  have y4 : twL T2 (n + 4) = twL T (n + 4) := by rw [h1.ne (by omega) (by omega), hf.1 _ (by omega) (by omega) (by omega) (by omega)]
  rw [h1.eq (by omega), y4]
  exact ⟨b.sub (fun y hy => by simpa using hy), by rw [h1.ne (by omega) (by omega), hf.1 _ (by omega) (by omega) (by omega) (by omega)]; exact hx⟩
theorem NnL.fin (h : NnL T0 T fk fo fw nm n u x l) (hL : L ≤ 25) (hx : 0 ≤ x ∧ x < nm) (hk : twL fk x ≠ 1 ∧ twL fk x ≠ 5) (hl : twL fo x ≠ -1 → (twL T (n + 4), 1, L + 1) ∈ l ∧ (twL fw x ≠ -1 → (twL T (n + 5), 1, L + 1) ∈ l)) : FiL T0 T fk fo fw nm n u 3 L := by
  obtain ⟨h, rfl⟩ := h
  exact h.fin hL (fun V hV e => nd5 e hx.1 hx.2 hk (fun h9 => ⟨hV _ (hl h9).1, fun h8 => hV _ ((hl h9).2 h8)⟩))
end
theorem ChE.st {T T' T2 fk fo fw : Nat → Int32} {nm lo u u' h x f i : Int} (hc : ChE T fk fo fw nm lo u h x i.toNat) (hlo : 0 ≤ lo) (hlu : lo ≤ u) (hf : FiL T T' fk fo fw nm u u' 1 1) (hw : LkL T' T2 x f) (hfu : f = u) (hi : 0 ≤ i) : ChE T2 fk fo fw nm lo u' h f (i + 1).toNat := by
  subst hfu
  rw [show (i + 1).toNat = i.toNat + 1 by omega]
  exact hc.step hlo hlu hf.1 hf.2.2.1 (by have := hf.2.2.2; omega) hf.2.1 hw
def lbL (b : Int) (k L : Nat) : List (Int × Nat × Nat) := if b = 0 then [] else [(b, k, L)]
/-- a row as far as it is read -/
def RwBc (T fk fo fw : Nat → Int32) (nm lo u b t : Int) : Prop := TrE T fk fo fw nm lo u (lbL b 9 0 ++ lbL t 10 1) ∧ lo ≤ u ∧ 7 ≤ lo
def RwE (T fk fo fw : Nat → Int32) (nm lo u b t h x : Int) : Prop := TrE T fk fo fw nm lo u ((lbL b 9 0 ++ lbL t 10 1) ++ [(h, 14, 0), (x, 14, 0)]) ∧ lo ≤ u ∧ 7 ≤ lo
section
variable {T T1 T2 fk fo fw : Nat → Int32} {nm lo u u' b t h x r : Int}
theorem lbL.mem {b : Int} {k L : Nat} (hb : b ≠ 0) : lbL b k L = [(b, k, L)] := if_neg hb
theorem RwBc.nil (hu : lo ≤ u) (h7 : 7 ≤ lo) (hb : b = 0) (ht : t = 0) : RwBc T fk fo fw nm lo u b t := by subst hb; subst ht; exact ⟨TrE.nil, hu, h7⟩
theorem RwBc.mb (hf : FiL T T1 fk fo fw nm lo u 9 0) (h7 : 7 ≤ lo) (hr : r = lo) (ht : t = 0) : RwBc T1 fk fo fw nm lo u r t := by
  subst ht; subst hr
  exact ⟨by rw [lbL.mem (by omega)]; exact hf.2.2.1, by have := hf.2.2.2; omega, h7⟩
theorem RwBc.mt (hb : RwBc T fk fo fw nm lo u b 0) (hf : FiL T T1 fk fo fw nm u u' 10 1) (hr : r = u) : RwBc T1 fk fo fw nm lo u' b r := by
  subst hr
  have g := hf.2.2.2
  refine ⟨?_, by have := hb.2.1; omega, hb.2.2⟩
  rw [lbL.mem (b := r) (by have := hb.2; omega)]
  exact (hb.1.cat hf.1 hf.2.2.1 hb.2.1 (by omega)).sub (fun y hy => by simpa [lbL] using hy)
theorem RwBc.mh (hb : RwBc T fk fo fw nm lo u b t) (hf : FiL T T1 fk fo fw nm u u' 14 0) (hr : r = u) : RwE T1 fk fo fw nm lo u' b t r r := by
  subst hr
  have g := hf.2.2.2
  refine ⟨?_, by have := hb.2.1; omega, hb.2.2⟩
  refine (hb.1.cat hf.1 hf.2.2.1 hb.2.1 (by omega)).sub (fun y hy => ?_)
  rcases List.mem_append.mp hy with h9 | h9
  · exact List.mem_append_left _ h9
  · refine List.mem_append_right _ ?_
    simpa using h9
theorem RwE.step (hb : RwE T fk fo fw nm lo u b t h x) (hf : FiL T T1 fk fo fw nm u u' 14 0) (hw : LkL T1 T2 x r) (hr : r = u) : RwE T2 fk fo fw nm lo u' b t h r := by
  subst hr
  have g := hf.2.2.2
  refine ⟨?_, by have := hb.2.1; omega, hb.2.2⟩
  have a := (hb.1.cat hf.1 hf.2.2.1 hb.2.1 (by omega)).lnk (x := x) (f := r) (k := 14) (L := 0) (List.mem_append_left _ (List.mem_append_right _ (by simp))) (List.mem_append_right _ (by simp)) hw
  refine a.sub (fun y hy => ?_)
  rcases List.mem_append.mp hy with h9 | h9
  · exact List.mem_append_left _ (List.mem_append_left _ h9)
  · rcases List.mem_cons.mp h9 with h8 | h8
    · rw [h8]; exact List.mem_append_left _ (List.mem_append_right _ (by simp))
    · rw [List.mem_singleton.mp h8]; exact List.mem_append_right _ (by simp)
theorem RwE.use (hb : RwE T fk fo fw nm lo u b t h x) : ∃ V : Int → Nat → Nat → Prop, TrL V T fk fo fw nm lo u ∧ (b = 0 ∨ V b 9 0) ∧ (t = 0 ∨ V t 10 1) ∧ V h 14 0 := by
  obtain ⟨⟨V, a, _, c⟩, _, _⟩ := hb
  refine ⟨V, a, ?_, ?_, c (h, 14, 0) (List.mem_append_right _ (by simp))⟩
  · by_cases h9 : b = 0
    · exact Or.inl h9
    · exact Or.inr (c (b, 9, 0) (List.mem_append_left _ (List.mem_append_left _ (by rw [lbL.mem h9]; simp))))
  · by_cases h9 : t = 0
    · exact Or.inl h9
    · exact Or.inr (c (t, 10, 1) (List.mem_append_left _ (List.mem_append_right _ (by rw [lbL.mem h9]; simp))))
theorem RwE.rg (hb : RwE T fk fo fw nm lo u b t h x) : 7 ≤ x ∧ x + 7 ≤ u ∧ x % 7 = 0 := by
  have := hb.1.rg (x := x) (k := 14) (L := 0) (List.mem_append_right _ (by simp))
  omega
theorem two_lin (hf : FiL T T1 fk fo fw nm lo u 1 1) (h2 : FiL T1 T2 fk fo fw nm u u' 1 1) : ∃ V : Int → Nat → Nat → Prop, TrL V T2 fk fo fw nm lo u' ∧ V lo 1 1 ∧ V u 1 1 := by
  have g := hf.2.2.2
  have g2 := h2.2.2.2
  obtain ⟨V, a, _, c⟩ := hf.2.2.1.cat h2.1 h2.2.2.1 (by omega) (by omega)
  exact ⟨V, a, c (lo, 1, 1) (by simp), c (u, 1, 1) (by simp)⟩
theorem one_lin (hf : FiL T T1 fk fo fw nm lo u 1 1) : ∃ V : Int → Nat → Nat → Prop, TrL V T1 fk fo fw nm lo u ∧ V lo 1 1 := by
  obtain ⟨V, a, _, c⟩ := hf.2.2.1
  exact ⟨V, a, c (lo, 1, 1) (by simp)⟩
end
theorem NnL.finA {T0 T fk fo fw : Nat → Int32} {nm n u x : Int} {L : Nat} (h : (NnL T0 T fk fo fw nm n u x [(twL T (n + 4), 1, L + 1)] ∧ twL fw x = -1) ∨ NnL T0 T fk fo fw nm n u x [(twL T (n + 4), 1, L + 1), (twL T (n + 5), 1, L + 1)]) (hL : L ≤ 25) (hx : 0 ≤ x ∧ x < nm) (hk : twL fk x ≠ 1 ∧ twL fk x ≠ 5) : FiL T0 T fk fo fw nm n u 3 L := by
  rcases h with ⟨h1, h2⟩ | h1
  · exact h1.fin hL hx hk (fun _ => ⟨by simp, fun h8 => absurd h2 h8⟩)
  · exact h1.fin hL hx hk (fun _ => ⟨by simp, fun _ => by simp⟩)
end

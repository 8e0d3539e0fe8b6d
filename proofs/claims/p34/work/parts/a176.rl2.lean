section
variable {T T' T0 T1 T2 T3 T4 T5 T6 fk fo fw : Nat → Int32} {nm lo u u' n m x e kd : Int} {L k : Nat} {l : List (Int × Nat × Nat)}
/-- a binding of one name -/
theorem FiL.bd1 {e1 e2 e3 z s : Int} (h : NwL T0 T1 n 9) (hn : 7 ≤ n) (h7 : n % 7 = 0) (hL : L ≤ 25) (h1 : WrL T1 T2 e1 z) (he1 : e1 = n + 5) (h2 : WrL T2 T3 e2 s) (he2 : e2 = n + 3) (h3 : WrL T3 T4 e3 (-1)) (he3 : e3 = n + 4) (hz : 0 ≤ z ∧ z ≤ 63) (hs : StL fk fw nm s) (hu : u = n + 7) : FiL T0 T4 fk fo fw nm n u 9 L := by
  subst he1; subst he2; subst he3; subst hu
  have a := (((UnL.new (fk := fk) (fo := fo) (fw := fw) (nm := nm) h hn h7).put h1 (by omega) (by omega)).put h2 (by omega) (by omega)).put h3 (by omega) (by omega)
  have x3 : twL T4 (n + 3) = s := by rw [h3.ne (by omega) (by omega)]; exact h2.eq (by omega)
  have x5 : twL T4 (n + 5) = z := by rw [h3.ne (by omega) (by omega), h2.ne (by omega) (by omega)]; exact h1.eq (by omega)
  exact a.fin hL (fun V _ _ => nd9 (by rw [x3]; exact hs) (by rw [x5]; exact hz.1) (by rw [x5]; exact hz.2) (Or.inl (h3.eq (by omega))))
theorem FiL.bd2 {e1 e2 e3 e4 z s w : Int} (h : NwL T0 T1 n 9) (hn : 7 ≤ n) (h7 : n % 7 = 0) (hL : L ≤ 25) (h1 : WrL T1 T2 e1 z) (he1 : e1 = n + 5) (h2 : WrL T2 T3 e2 s) (he2 : e2 = n + 3) (h3 : WrL T3 T4 e3 (-1)) (he3 : e3 = n + 4) (h4 : WrL T4 T5 e4 w) (he4 : e4 = n + 4) (hz : 0 ≤ z ∧ z ≤ 62) (hs : StL fk fw nm s) (hw : StL fk fw nm w) (hu : u = n + 7) : FiL T0 T5 fk fo fw nm n u 9 L := by
  subst he1; subst he2; subst he3; subst he4; subst hu
  have a := ((((UnL.new (fk := fk) (fo := fo) (fw := fw) (nm := nm) h hn h7).put h1 (by omega) (by omega)).put h2 (by omega) (by omega)).put h3 (by omega) (by omega)).put h4 (by omega) (by omega)
  have x3 : twL T5 (n + 3) = s := by rw [h4.ne (by omega) (by omega), h3.ne (by omega) (by omega)]; exact h2.eq (by omega)
  have x5 : twL T5 (n + 5) = z := by rw [h4.ne (by omega) (by omega), h3.ne (by omega) (by omega), h2.ne (by omega) (by omega)]; exact h1.eq (by omega)
  have x4 : twL T5 (n + 4) = w := h4.eq (by omega)
  exact a.fin hL (fun V _ _ => nd9 (by rw [x3]; exact hs) (by rw [x5]; exact hz.1) (by rw [x5]; omega) (Or.inr ⟨by rw [x4]; exact hw, by rw [x5]; exact hz.2⟩))
/-- a comparison before it is hung in -/
def CpL (T0 T fk fo fw : Nat → Int32) (nm n u : Int) (L : Nat) : Prop := UnL T0 T fk fo fw nm n 14 u [(twL T (n + 3), 1, L + 1), (twL T (n + 4), 1, L + 1)]
theorem CpL.mk {T7 : Nat → Int32} {m2 e1 e2 e3 x1 x2 x3 : Int} (h : NwL T0 T1 n 14) (hn : 7 ≤ n) (h7 : n % 7 = 0) (hm : m = n + 7) (hf : FiL T1 T2 fk fo fw nm m u 1 (L + 1)) (h1 : WrL T2 T3 e1 x1) (he1 : e1 = n + 3) (hx1 : x1 = m) (h2 : WrL T3 T4 e2 x2) (he2 : e2 = n + 2) (hf2 : FiL T4 T5 fk fo fw nm u u' 1 (L + 1)) (h3 : WrL T5 T6 e3 x3) (he3 : e3 = n + 4) (hx3 : x3 = u) : CpL T0 T6 fk fo fw nm n u' L := by
  subst he1; subst he2; subst he3; subst hm; subst hx1; subst hx3
  have g1 := hf.2.2.2
  have a := ((UnL.new (fk := fk) (fo := fo) (fw := fw) (nm := nm) h hn h7).call hf.1 hf.2.2.1 (by omega)).put h1 (by omega) (by omega)
  have b := ((a.put h2 (by omega) (by omega)).call hf2.1 hf2.2.2.1 (by have := hf2.2.2.2; omega)).put h3 (by omega) (by omega)
  have y3 : twL T6 (n + 3) = n + 7 := by rw [h3.ne (by omega) (by omega), hf2.1 _ (by omega) (by omega) (by omega) (by omega), h2.ne (by omega) (by omega)]; exact h1.eq (by omega)
  have y4 : twL T6 (n + 4) = x3 := h3.eq (by omega)
  unfold CpL
  rw [y3, y4]
  exact b.sub (fun y hy => by simpa using hy)
theorem CpL.fin12 (h : CpL T0 T fk fo fw nm n u L) (hL : L ≤ 25) : FiL T0 T fk fo fw nm n u 12 L := UnL.fin h hL (fun V hV e => nd14 e (hV (twL T (n + 3), 1, L + 1) (by simp)) (hV (twL T (n + 4), 1, L + 1) (by simp)))
theorem CpL.fin14 (h : CpL T0 T fk fo fw nm n u L) (hL : L ≤ 25) : FiL T0 T fk fo fw nm n u 14 L := UnL.fin h hL (fun V hV e => ndw (hV (twL T (n + 3), 1, L + 1) (by simp)) (hV (twL T (n + 4), 1, L + 1) (by simp)))
/-- a sum: its binding stands -/
theorem UnL.sum1 {e1 e2 x1 x2 : Int} (h : NwL T0 T1 n 8) (hn : 7 ≤ n) (h7 : n % 7 = 0) (hm : m = n + 7) (hf : FiL T1 T2 fk fo fw nm m u 9 L) (h1 : WrL T2 T3 e1 x1) (he1 : e1 = m + 1) (h2 : WrL T3 T4 e2 x2) (he2 : e2 = n + 3) (hx2 : x2 = m) : UnL T0 T4 fk fo fw nm n 8 u [(twL T4 (n + 3), 9, L)] ∧ twL T4 (n + 4) = 0 := by
  subst he1; subst he2; subst hm; subst hx2
  have g1 := hf.2.2.2
  have a := (UnL.new (fk := fk) (fo := fo) (fw := fw) (nm := nm) h hn h7).call hf.1 hf.2.2.1 (by omega)
  have b := (a.mark h1 (by omega) (by omega)).put h2 (by omega) (by omega)
  rw [h2.eq (by omega)]
  refine ⟨b.sub (fun y hy => by simpa using hy), ?_⟩
  rw [h2.ne (by omega) (by omega), h1.ne (by omega) (by omega), hf.1 _ (by omega) (by omega) (by omega) (by omega)]
  exact h.2.2.2.1
/-- a sum: its truth stands, or there is none -/
def SmL (T0 T fk fo fw : Nat → Int32) (nm n u : Int) (L : Nat) : Prop := (UnL T0 T fk fo fw nm n 8 u [(twL T (n + 3), 9, L)] ∧ twL T (n + 4) = 0) ∨ UnL T0 T fk fo fw nm n 8 u [(twL T (n + 3), 9, L), (twL T (n + 4), 10, L + 1)]
theorem SmL.truth {e1 x1 : Int} (h : UnL T0 T fk fo fw nm n 8 u [(twL T (n + 3), 9, L)]) (hf : FiL T T1 fk fo fw nm u u' 10 (L + 1)) (h1 : WrL T1 T2 e1 x1) (he1 : e1 = n + 4) (hx1 : x1 = u) : SmL T0 T2 fk fo fw nm n u' L := by
  subst he1; subst hx1
  have r7 := h.2.2.2.2
  have b := (h.call hf.1 hf.2.2.1 (by have := hf.2.2.2; omega)).put h1 (by omega) (by omega)
  have y3 : twL T2 (n + 3) = twL T (n + 3) := by rw [h1.ne (by omega) (by omega), hf.1 _ (by omega) (by omega) (by omega) (by omega)]
  refine Or.inr ?_
  rw [y3, h1.eq (by omega)]
  exact b.sub (fun y hy => by simpa using hy)
theorem SmL.fin {e1 x1 : Int} (h : SmL T0 T fk fo fw nm n u L) (hL : L ≤ 25) (hf : FiL T T1 fk fo fw nm u u' 3 (L + 1)) (h1 : WrL T1 T2 e1 x1) (he1 : e1 = n + 5) (hx1 : x1 = u) : FiL T0 T2 fk fo fw nm n u' 3 L := by
  subst he1; subst hx1
  have y : ∀ d : Int, (d = 3 ∨ d = 4) → n + 7 ≤ x1 → n % 7 = 0 → 7 ≤ n → twL T2 (n + d) = twL T (n + d) := fun d hd a b c => by rw [h1.ne (by omega) (by omega), hf.1 _ (by omega) (by omega) (by omega) (by omega)]
  have hh := hf.2.2.2
  rcases h with ⟨h, h4⟩ | h
  · obtain ⟨ra, rb, rc⟩ := h.2.2.2.2
    have b := (h.call hf.1 hf.2.2.1 (by omega)).put h1 (by omega) (by omega)
    refine b.fin hL (fun V hV e => nd8 e ?_ (Or.inl ?_) ?_)
    · rw [y 3 (by omega) ra rc rb]; exact hV (twL T (n + 3), 9, L) (by simp)
    · rw [y 4 (by omega) ra rc rb]; exact h4
    · rw [h1.eq (by omega)]; exact hV (x1, 3, L + 1) (by simp)
  · obtain ⟨ra, rb, rc⟩ := h.2.2.2.2
    have b := (h.call hf.1 hf.2.2.1 (by omega)).put h1 (by omega) (by omega)
    refine b.fin hL (fun V hV e => nd8 e ?_ (Or.inr ?_) ?_)
    · rw [y 3 (by omega) ra rc rb]; exact hV (twL T (n + 3), 9, L) (by simp)
    · rw [y 4 (by omega) ra rc rb]; exact hV (twL T (n + 4), 10, L + 1) (by simp)
    · rw [h1.eq (by omega)]; exact hV (x1, 3, L + 1) (by simp)
/-- a name: its places -/
def NnL (T0 T fk fo fw : Nat → Int32) (nm n u x : Int) (l : List (Int × Nat × Nat)) : Prop := UnL T0 T fk fo fw nm n 5 u l ∧ twL T (n + 3) = x
theorem NnL.mk {e1 x1 : Int} (h : NwL T0 T1 n 5) (hn : 7 ≤ n) (h7 : n % 7 = 0) (h1 : WrL T1 T2 e1 x1) (he1 : e1 = n + 3) (hu : u = n + 7) : NnL T0 T2 fk fo fw nm n u x1 [] := by
  subst he1; subst hu
  exact ⟨(UnL.new (fk := fk) (fo := fo) (fw := fw) (nm := nm) h hn h7).put h1 (by omega) (by omega), h1.eq (by omega)⟩
theorem NnL.one {e1 x1 : Int} (h : NnL T0 T fk fo fw nm n u x []) (hf : FiL T T1 fk fo fw nm u u' 1 (L + 1)) (h1 : WrL T1 T2 e1 x1) (he1 : e1 = n + 4) (hx1 : x1 = u) : NnL T0 T2 fk fo fw nm n u' x [(twL T2 (n + 4), 1, L + 1)] := by
  subst he1; subst hx1
  obtain ⟨h, hx⟩ := h
  have r7 := h.2.2.2.2
  have b := (h.call hf.1 hf.2.2.1 (by have := hf.2.2.2; omega)).put h1 (by omega) (by omega)
  rw [h1.eq (by omega)]
  exact ⟨b.sub (fun y hy => by simpa using hy), by rw [h1.ne (by omega) (by omega), hf.1 _ (by omega) (by omega) (by omega) (by omega)]; exact hx⟩
theorem NnL.two {e1 x1 : Int} (h : NnL T0 T fk fo fw nm n u x [(twL T (n + 4), 1, L + 1)]) (hf : FiL T T1 fk fo fw nm u u' 1 (L + 1)) (h1 : WrL T1 T2 e1 x1) (he1 : e1 = n + 5) (hx1 : x1 = u) : NnL T0 T2 fk fo fw nm n u' x [(twL T2 (n + 4), 1, L + 1), (twL T2 (n + 5), 1, L + 1)] := by
  subst he1; subst hx1
  obtain ⟨h, hx⟩ := h
  have r7 := h.2.2.2.2
  have b := (h.call hf.1 hf.2.2.1 (by have := hf.2.2.2; omega)).put h1 (by omega) (by omega)
  have y4 : twL T2 (n + 4) = twL T (n + 4) := by rw [h1.ne (by omega) (by omega), hf.1 _ (by omega) (by omega) (by omega) (by omega)]
  rw [h1.eq (by omega), y4]
  exact ⟨b.sub (fun y hy => by simpa using hy), by rw [h1.ne (by omega) (by omega), hf.1 _ (by omega) (by omega) (by omega) (by omega)]; exact hx⟩
theorem NnL.fin (h : NnL T0 T fk fo fw nm n u x l) (hL : L ≤ 25) (hx : 0 ≤ x ∧ x < nm) (hk : twL fk x ≠ 1 ∧ twL fk x ≠ 5) (hl : twL fo x ≠ -1 → (twL T (n + 4), 1, L + 1) ∈ l ∧ (twL fw x ≠ -1 → (twL T (n + 5), 1, L + 1) ∈ l)) : FiL T0 T fk fo fw nm n u 3 L := by
  obtain ⟨h, rfl⟩ := h
  exact h.fin hL (fun V hV e => nd5 e hx.1 hx.2 hk (fun h9 => ⟨hV _ (hl h9).1, fun h8 => hV _ ((hl h9).2 h8)⟩))
end
theorem ChE.st {T T' T2 fk fo fw : Nat → Int32} {nm lo u u' h x f i : Int} (hc : ChE T fk fo fw nm lo u h x i.toNat) (hlo : 0 ≤ lo) (hlu : lo ≤ u) (hf : FiL T T' fk fo fw nm u u' 1 1) (hw : LkL T' T2 x f) (hfu : f = u) (hi : 0 ≤ i) : ChE T2 fk fo fw nm lo u' h f (i + 1).toNat := by
  subst hfu
  rw [show (i + 1).toNat = i.toNat + 1 by omega]
  exact hc.step hlo hlu hf.1 hf.2.2.1 (by have := hf.2.2.2; omega) hf.2.1 hw
def lbL (b : Int) (k L : Nat) : List (Int × Nat × Nat) := if b = 0 then [] else [(b, k, L)]
/-- a row as far as it is read -/
def RwBc (T fk fo fw : Nat → Int32) (nm lo u b t : Int) : Prop := TrE T fk fo fw nm lo u (lbL b 9 0 ++ lbL t 10 1) ∧ lo ≤ u ∧ 7 ≤ lo
def RwE (T fk fo fw : Nat → Int32) (nm lo u b t h x : Int) : Prop := TrE T fk fo fw nm lo u ((lbL b 9 0 ++ lbL t 10 1) ++ [(h, 14, 0), (x, 14, 0)]) ∧ lo ≤ u ∧ 7 ≤ lo
section
variable {T T1 T2 fk fo fw : Nat → Int32} {nm lo u u' b t h x r : Int}
theorem lbL.mem {b : Int} {k L : Nat} (hb : b ≠ 0) : lbL b k L = [(b, k, L)] := if_neg hb
theorem RwBc.nil (hu : lo ≤ u) (h7 : 7 ≤ lo) (hb : b = 0) (ht : t = 0) : RwBc T fk fo fw nm lo u b t := by subst hb; subst ht; exact ⟨TrE.nil, hu, h7⟩
theorem RwBc.mb (hf : FiL T T1 fk fo fw nm lo u 9 0) (h7 : 7 ≤ lo) (hr : r = lo) (ht : t = 0) : RwBc T1 fk fo fw nm lo u r t := by
  subst ht; subst hr
  exact ⟨by rw [lbL.mem (by omega)]; exact hf.2.2.1, by have := hf.2.2.2; omega, h7⟩
theorem RwBc.mt (hb : RwBc T fk fo fw nm lo u b 0) (hf : FiL T T1 fk fo fw nm u u' 10 1) (hr : r = u) : RwBc T1 fk fo fw nm lo u' b r := by
  subst hr
  have g := hf.2.2.2
  refine ⟨?_, by have := hb.2.1; omega, hb.2.2⟩
  rw [lbL.mem (b := r) (by have := hb.2; omega)]
  exact (hb.1.cat hf.1 hf.2.2.1 hb.2.1 (by omega)).sub (fun y hy => by simpa [lbL] using hy)
theorem RwBc.mh (hb : RwBc T fk fo fw nm lo u b t) (hf : FiL T T1 fk fo fw nm u u' 14 0) (hr : r = u) : RwE T1 fk fo fw nm lo u' b t r r := by
  subst hr
  have g := hf.2.2.2
  refine ⟨?_, by have := hb.2.1; omega, hb.2.2⟩
  refine (hb.1.cat hf.1 hf.2.2.1 hb.2.1 (by omega)).sub (fun y hy => ?_)
  rcases List.mem_append.mp hy with h9 | h9
  · exact List.mem_append_left _ h9
  · refine List.mem_append_right _ ?_
    simpa using h9
theorem RwE.step (hb : RwE T fk fo fw nm lo u b t h x) (hf : FiL T T1 fk fo fw nm u u' 14 0) (hw : LkL T1 T2 x r) (hr : r = u) : RwE T2 fk fo fw nm lo u' b t h r := by
  subst hr
  have g := hf.2.2.2
  refine ⟨?_, by have := hb.2.1; omega, hb.2.2⟩
  have a := (hb.1.cat hf.1 hf.2.2.1 hb.2.1 (by omega)).lnk (x := x) (f := r) (k := 14) (L := 0) (List.mem_append_left _ (List.mem_append_right _ (by simp))) (List.mem_append_right _ (by simp)) hw
  refine a.sub (fun y hy => ?_)
  rcases List.mem_append.mp hy with h9 | h9
  · exact List.mem_append_left _ (List.mem_append_left _ h9)
  · rcases List.mem_cons.mp h9 with h8 | h8
    · rw [h8]; exact List.mem_append_left _ (List.mem_append_right _ (by simp))
    · rw [List.mem_singleton.mp h8]; exact List.mem_append_right _ (by simp)
theorem RwE.use (hb : RwE T fk fo fw nm lo u b t h x) : ∃ V : Int → Nat → Nat → Prop, TrL V T fk fo fw nm lo u ∧ (b = 0 ∨ V b 9 0) ∧ (t = 0 ∨ V t 10 1) ∧ V h 14 0 := by
  obtain ⟨⟨V, a, _, c⟩, _, _⟩ := hb
  refine ⟨V, a, ?_, ?_, c (h, 14, 0) (List.mem_append_right _ (by simp))⟩
  · by_cases h9 : b = 0
    · exact Or.inl h9
    · exact Or.inr (c (b, 9, 0) (List.mem_append_left _ (List.mem_append_left _ (by rw [lbL.mem h9]; simp))))
  · by_cases h9 : t = 0
    · exact Or.inl h9
    · exact Or.inr (c (t, 10, 1) (List.mem_append_left _ (List.mem_append_right _ (by rw [lbL.mem h9]; simp))))
theorem RwE.rg (hb : RwE T fk fo fw nm lo u b t h x) : 7 ≤ x ∧ x + 7 ≤ u ∧ x % 7 = 0 := by
  have := hb.1.rg (x := x) (k := 14) (L := 0) (List.mem_append_right _ (by simp))
  omega
theorem two_lin (hf : FiL T T1 fk fo fw nm lo u 1 1) (h2 : FiL T1 T2 fk fo fw nm u u' 1 1) : ∃ V : Int → Nat → Nat → Prop, TrL V T2 fk fo fw nm lo u' ∧ V lo 1 1 ∧ V u 1 1 := by
  have g := hf.2.2.2
  have g2 := h2.2.2.2
  obtain ⟨V, a, _, c⟩ := hf.2.2.1.cat h2.1 h2.2.2.1 (by omega) (by omega)
  exact ⟨V, a, c (lo, 1, 1) (by simp), c (u, 1, 1) (by simp)⟩
theorem one_lin (hf : FiL T T1 fk fo fw nm lo u 1 1) : ∃ V : Int → Nat → Nat → Prop, TrL V T1 fk fo fw nm lo u ∧ V lo 1 1 := by
  obtain ⟨V, a, _, c⟩ := hf.2.2.1
  exact ⟨V, a, c (lo, 1, 1) (by simp)⟩
end
theorem NnL.finA {T0 T fk fo fw : Nat → Int32} {nm n u x : Int} {L : Nat} (h : (NnL T0 T fk fo fw nm n u x [(twL T (n + 4), 1, L + 1)] ∧ twL fw x = -1) ∨ NnL T0 T fk fo fw nm n u x [(twL T (n + 4), 1, L + 1), (twL T (n + 5), 1, L + 1)]) (hL : L ≤ 25) (hx : 0 ≤ x ∧ x < nm) (hk : twL fk x ≠ 1 ∧ twL fk x ≠ 5) : FiL T0 T fk fo fw nm n u 3 L := by
  rcases h with ⟨h1, h2⟩ | h1
  · exact h1.fin hL hx hk (fun _ => ⟨by simp, fun h8 => absurd h2 h8⟩)
  · exact h1.fin hL hx hk (fun _ => ⟨by simp, fun _ => by simp⟩)

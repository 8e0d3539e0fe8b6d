/-- the reader's ghosts: the finished nodes, their work, order, pile and members -/
abbrev RG : Type := (Nat → Prop) × (Nat → Nat) × (Nat → Nat) × (Nat → Nat) × (Nat → Int32) × Nat
abbrev RG.V (G : RG) : Nat → Prop := Prod.fst G
abbrev RG.wt (G : RG) : Nat → Nat := G.2.1
abbrev RG.dp (G : RG) : Nat → Nat := G.2.2.1
abbrev RG.pd (G : RG) : Nat → Nat := G.2.2.2.1
abbrev RG.mb (G : RG) : Nat → Int32 := G.2.2.2.2.1
abbrev RG.vN (G : RG) : Nat := G.2.2.2.2.2
/-- one more finished node -/
def RG.add (G : RG) (n w p : Nat) (b : Int32) : RG := ⟨fun q => q = n ∨ G.V q, fun q => if q = n then w else G.wt q, fun q => if q = n then G.vN else G.dp q, fun q => if q = n then p else G.pd q, fun q => if q = n then b else G.mb q, G.vN + 1⟩
/-- the rows that a node speaks of: T the tables, the rest the nodes' and the bindings' own -/
def ndF (T : Nat → Nat → Int32) (mb f29 f30 f31 f32 f36 f37 f38 : Nat → Int32) : Nat → Nat → Int32 := fun k =>
  if k = 29 then f29 else if k = 30 then f30 else if k = 31 then f31 else if k = 32 then f32 else if k = 36 then f36 else if k = 37 then f37 else if k = 38 then f38 else if k = 150 then mb else T k
theorem ndF_T {T : Nat → Nat → Int32} {mb f29 f30 f31 f32 f36 f37 f38 : Nat → Int32} {x : Nat} (hx : x < 29) : ndF T mb f29 f30 f31 f32 f36 f37 f38 x = T x := by
  unfold ndF
  rw [if_neg (by omega), if_neg (by omega), if_neg (by omega), if_neg (by omega), if_neg (by omega), if_neg (by omega), if_neg (by omega), if_neg (by omega)]
theorem NamS.cg {F F' : Nat → Nat → Int32} {se k a pl o1 o2 aT : Nat} (hT : ∀ x, x < 29 → F' x = F x) (h : NamS F se k a pl o1 o2 aT) : NamS F' se k a pl o1 o2 aT := by
  unfold NamS MmK nuF at h ⊢
  rw [hT 17 (by decide), hT 3 (by decide), hT 18 (by decide), hT 19 (by decide), hT 20 (by decide), hT 21 (by decide), hT 24 (by decide), hT 25 (by decide), hT 26 (by decide), hT 27 (by decide), hT 1 (by decide), hT 2 (by decide)]
  exact h
theorem KidL.mono {F F' : Nat → Nat → Int32} {V V' : Nat → Prop} {dp pd dp' pd' : Nat → Nat} {n x d c : Nat} (h : KidL F V dp pd n x d c) (hx : F' x n = F x n) (hc : ∀ q, V q → V' q ∧ F' 29 q = F 29 q ∧ dp' q = dp q ∧ pd' q = pd q) (hn : dp' n = dp n ∧ pd' n = pd n) : KidL F' V' dp' pd' n x d c := by
  obtain ⟨⟨h1, h2⟩, h3, h4, h5, h6⟩ := h
  obtain ⟨a1, a2, a3, a4⟩ := hc c h3
  exact ⟨⟨hx.trans h1, h2⟩, a1, by omega, by omega, by rw [a2]; exact h6⟩
theorem KidT.mono {F F' : Nat → Nat → Int32} {V V' : Nat → Prop} {dp pd dp' pd' : Nat → Nat} {n x d c : Nat} (h : KidT F V dp pd n x d c) (hx : F' x n = F x n) (hc : ∀ q, V q → V' q ∧ F' 29 q = F 29 q ∧ dp' q = dp q ∧ pd' q = pd q) (hn : dp' n = dp n ∧ pd' n = pd n) : KidT F' V' dp' pd' n x d c := by
  obtain ⟨⟨h1, h2⟩, h3, h4, h5, h6⟩ := h
  obtain ⟨a1, a2, a3, a4⟩ := hc c h3
  exact ⟨⟨hx.trans h1, h2⟩, a1, by omega, by omega, by rw [a2]; exact h6⟩
theorem NdK.mono {F F' : Nat → Nat → Int32} {V V' : Nat → Prop} {wt dp pd wt' dp' pd' : Nat → Nat} {se n k : Nat} (h : NdK F V wt dp pd se n k) (h30 : F' 30 n = F 30 n) (h31 : F' 31 n = F 31 n) (h32 : F' 32 n = F 32 n) (h150 : F' 150 n = F 150 n) (h17 : F' 17 = F 17) (hT : ∀ a pl o1 o2 aT, (k = 2 ∨ k = 3) → NamS F se k a pl o1 o2 aT → NamS F' se k a pl o1 o2 aT)
    (hc : ∀ q, V q → V' q ∧ F' 29 q = F 29 q ∧ wt' q = wt q ∧ dp' q = dp q ∧ pd' q = pd q) (hn : wt' n = wt n ∧ dp' n = dp n ∧ pd' n = pd n) (hb : k = 9 → ∀ b, F 30 n = nI b → b < 900 → F' 36 b = F 36 b ∧ F' 37 b = F 37 b ∧ F' 38 b = F 38 b) : NdK F' V' wt' dp' pd' se n k := by
  have hc' : ∀ q, V q → V' q ∧ F' 29 q = F 29 q ∧ dp' q = dp q ∧ pd' q = pd q := fun q hq => ⟨(hc q hq).1, (hc q hq).2.1, (hc q hq).2.2.2⟩
  obtain ⟨n1, n2, n3⟩ := hn
  have hw : ∀ q, V q → wt' q = wt q := fun q hq => (hc q hq).2.2.1
  have hmb : mbO F' n = mbO F n := by unfold mbO; rw [h150]
  rcases h with ⟨a, b, c⟩ | ⟨a, b, x, c, d⟩ | ⟨a, b, x, pl, o1, o2, aT, d, c, ⟨e1, e2⟩, e3, e4⟩ | ⟨a, b, c, d, e⟩ | ⟨a, b, c, d, e, f, g⟩ | ⟨a, b, x, c, W, d1, d2, d3, d4, d5, d6, d7⟩ | ⟨a, c, d, e, f, g⟩ | ⟨a, c, d, e⟩
  · exact Or.inl ⟨a, by omega, by rw [h30]; exact c⟩
  · exact Or.inr (Or.inl ⟨a, by omega, x, c, h30.trans d⟩)
  · refine Or.inr (Or.inr (Or.inl ⟨a, by omega, x, pl, o1, o2, aT, d, c, ⟨h30.trans e1, e2⟩, ?_, ?_⟩))
    · exact hT x pl o1 o2 aT a e3
    · obtain ⟨g1, g2, g3⟩ := e4
      refine ⟨g1.imp (fun q => ⟨q.1, h31.trans q.2⟩) (fun q => ⟨q.1, q.2.mono h31 hc' ⟨n2, n3⟩⟩), g2.imp (fun q => ⟨q.1, h32.trans q.2⟩) (fun q => ⟨q.1, q.2.mono h32 hc' ⟨n2, n3⟩⟩), ?_⟩
      rcases g1 with g1 | g1
      · exact Or.inl g1.1
      · have w1 := hw d g1.2.2.1
        rcases g3 with g3 | ⟨g3, g4⟩
        · exact Or.inl g3
        · refine Or.inr ⟨by omega, ?_⟩
          rcases g2 with g2 | g2
          · exact Or.inl (by omega)
          · have w2 := hw c g2.2.2.1
            rcases g4 with g4 | g4
            · exact Or.inl g4
            · exact Or.inr (by omega)
  · have w1 := hw c d.2.1
    exact Or.inr (Or.inr (Or.inr (Or.inl ⟨a, by omega, c, d.mono h30 hc' ⟨n2, n3⟩, by omega⟩)))
  · have w1 := hw c e.2.1
    have w2 := hw d f.2.1
    exact Or.inr (Or.inr (Or.inr (Or.inr (Or.inl ⟨a, by omega, c, d, e.mono h30 hc' ⟨n2, n3⟩, f.mono h31 hc' ⟨n2, n3⟩, by omega⟩))))
  · obtain ⟨b1, b2, b3⟩ := hb a x d1 d2
    have w1 := hw c d6.1.2.1
    refine Or.inr (Or.inr (Or.inr (Or.inr (Or.inr (Or.inl ⟨a, by omega, x, c, W, h30.trans d1, d2, ?_, ?_, ?_, ⟨d6.1.mono h32 hc' ⟨n2, n3⟩, by (have := d6.2.1); omega, ?_⟩, ?_⟩)))))
    · unfold BnO at d3 ⊢
      rw [b1, b2, b3]
      exact d3
    · unfold MbO at d4 ⊢
      rw [hmb, b1, b2, h17]
      exact d4
    · rw [hmb]; exact d5
    · rcases d6.2.2 with q | ⟨y, q, r⟩
      · exact Or.inl (h31.trans q)
      · have w2 := hw y q.2.1
        exact Or.inr ⟨y, q.mono h31 hc' ⟨n2, n3⟩, by omega⟩
    · rw [hmb, n1]; exact d7
  · have w1 := hw c e.2.1
    have w2 := hw d f.2.1
    exact Or.inr (Or.inr (Or.inr (Or.inr (Or.inr (Or.inr (Or.inl ⟨a, c, d, e.mono h30 hc' ⟨n2, n3⟩, f.mono h31 hc' ⟨n2, n3⟩, by omega⟩))))))
  · have w1 := hw c d.2.1
    exact Or.inr (Or.inr (Or.inr (Or.inr (Or.inr (Or.inr (Or.inr ⟨a, c, d.mono h30 hc' ⟨n2, n3⟩, by omega⟩))))))
/-- the finished nodes are well formed, below nd, their bindings below bs -/
def RdV (T : Nat → Nat → Int32) (G : RG) (f29 f30 f31 f32 f36 f37 f38 : Nat → Int32) (se nd bs : Nat) : Prop :=
  VoK (ndF T G.mb f29 f30 f31 f32 f36 f37 f38) G.V G.wt G.dp G.pd se ∧ (∀ n, G.V n → n < nd ∧ G.dp n < G.vN) ∧ ∀ n b, G.V n → f29 n = nI 9 → f30 n = nI b → b < 900 → b < bs
theorem RdV.keep {T : Nat → Nat → Int32} {G : RG} {f29 f30 f31 f32 f36 f37 f38 g29 g30 g31 g32 g36 g37 g38 : Nat → Int32} {se nd bs nd' bs' : Nat} (h : RdV T G f29 f30 f31 f32 f36 f37 f38 se nd bs) (hn : ∀ n, G.V n → g29 n = f29 n ∧ g30 n = f30 n ∧ g31 n = f31 n ∧ g32 n = f32 n) (hb : ∀ b, b < bs → g36 b = f36 b ∧ g37 b = f37 b ∧ g38 b = f38 b) (hnd : nd ≤ nd') (hbs : bs ≤ bs') : RdV T G g29 g30 g31 g32 g36 g37 g38 se nd' bs' := by
  obtain ⟨h1, h2, h3⟩ := h
  refine ⟨fun n hv => ?_, fun n hv => ⟨Nat.lt_of_lt_of_le (h2 n hv).1 hnd, (h2 n hv).2⟩, fun n b hv e1 e2 e9 => ?_⟩
  · obtain ⟨a1, k, a2, a3⟩ := h1 n hv
    obtain ⟨e1, e2, e3, e4⟩ := hn n hv
    refine ⟨a1, k, e1.trans a2, a3.mono e2 e3 e4 rfl ((ndF_T (by decide)).trans (ndF_T (by decide)).symm) (fun x pl o1 o2 aT _ => NamS.cg (fun x hx => (ndF_T hx).trans (ndF_T hx).symm)) (fun q hq => ⟨hq, (hn q hq).1, rfl, rfl, rfl⟩) ⟨rfl, rfl, rfl⟩ (fun hk b hb' h9 => ?_)⟩
    · subst hk
      exact hb b (h3 n b hv a2 hb' h9)
  · obtain ⟨e3, e4, _⟩ := hn n hv
    exact Nat.lt_of_lt_of_le (h3 n b hv (e3.symm.trans e1) (e4.symm.trans e2) e9) hbs
theorem RdV.add {T : Nat → Nat → Int32} {G : RG} {f29 f30 f31 f32 f36 f37 f38 : Nat → Int32} {se nd bs n w p k : Nat} {b : Int32} (h : RdV T G f29 f30 f31 f32 f36 f37 f38 se nd bs) (hv : ¬ G.V n) (hn : n < nd) (h4 : n < 4000) (hk : f29 n = nI k)
    (hN : NdK (ndF T (G.add n w p b).mb f29 f30 f31 f32 f36 f37 f38) (G.add n w p b).V (G.add n w p b).wt (G.add n w p b).dp (G.add n w p b).pd se n k) (hb : k = 9 → ∀ x, f30 n = nI x → x < 900 → x < bs) (hk9 : k < 4000) : RdV T (G.add n w p b) f29 f30 f31 f32 f36 f37 f38 se nd bs := by
  obtain ⟨h1, h2, h3⟩ := h
  refine ⟨fun q hq => ?_, fun q hq => ?_, fun q x hq e1 e2 e9 => ?_⟩
  · rcases hq with rfl | hq
    · exact ⟨h4, k, hk, hN⟩
    · have hqn : q ≠ n := fun e => hv (e ▸ hq)
      obtain ⟨a1, k9, a2, a3⟩ := h1 q hq
      exact ⟨a1, k9, a2, a3.mono rfl rfl rfl (if_neg hqn) ((ndF_T (by decide)).trans (ndF_T (by decide)).symm) (fun x pl o1 o2 aT _ => NamS.cg (fun x hx => (ndF_T hx).trans (ndF_T hx).symm))
        (fun c hc => have hcn : c ≠ n := fun e => hv (e ▸ hc)
          ⟨Or.inr hc, rfl, if_neg hcn, if_neg hcn, if_neg hcn⟩) ⟨if_neg hqn, if_neg hqn, if_neg hqn⟩ (fun _ _ _ _ => ⟨rfl, rfl, rfl⟩)⟩
  · rcases hq with rfl | hq
    · exact ⟨hn, by show (if q = q then G.vN else G.dp q) < G.vN + 1; rw [if_pos rfl]; omega⟩
    · have hqn : q ≠ n := fun e => hv (e ▸ hq)
      exact ⟨(h2 q hq).1, by show (if q = n then G.vN else G.dp q) < G.vN + 1; rw [if_neg hqn]; have := (h2 q hq).2; omega⟩
  · rcases hq with rfl | hq
    · exact hb (nIinj hk9 (by decide) (hk.symm.trans e1)) x e2 e9
    · exact h3 q x hq e1 e2 e9
/-- a finished part that lays a row on the pile (LinO), or a truth (TruO); its pile is within P -/
def LinO (G : RG) (f29 : Nat → Int32) (c P : Nat) : Prop := G.V c ∧ (f29 c).toInt ≤ 9 ∧ G.pd c ≤ P
def TruO (G : RG) (f29 : Nat → Int32) (c P : Nat) : Prop := G.V c ∧ ¬ (f29 c).toInt ≤ 9 ∧ G.pd c ≤ P
theorem RdV.lt {T : Nat → Nat → Int32} {G : RG} {f29 f30 f31 f32 f36 f37 f38 : Nat → Int32} {se nd bs n : Nat} (h : RdV T G f29 f30 f31 f32 f36 f37 f38 se nd bs) (hv : G.V n) : n < 4000 := (h.1 n hv).1
theorem RdV.kid {T : Nat → Nat → Int32} {G : RG} {f29 f30 f31 f32 f36 f37 f38 : Nat → Int32} {se nd bs n w p c P d x : Nat} {b : Int32} (h : RdV T G f29 f30 f31 f32 f36 f37 f38 se nd bs) (hv : ¬ G.V n) (hc : LinO G f29 c P) (hP : P + d ≤ p) (e : ndF T (G.add n w p b).mb f29 f30 f31 f32 f36 f37 f38 x n = nI c) :
    KidL (ndF T (G.add n w p b).mb f29 f30 f31 f32 f36 f37 f38) (G.add n w p b).V (G.add n w p b).dp (G.add n w p b).pd n x d c := by
  have hcn : c ≠ n := fun e => hv (e ▸ hc.1)
  refine ⟨⟨e, h.lt hc.1⟩, Or.inr hc.1, ?_, ?_, hc.2.1⟩
  · show (if c = n then G.vN else G.dp c) < (if n = n then G.vN else G.dp n)
    rw [if_neg hcn, if_pos rfl]; exact (h.2.1 c hc.1).2
  · show (if c = n then p else G.pd c) + d ≤ (if n = n then p else G.pd n)
    rw [if_neg hcn, if_pos rfl]; have := hc.2.2; omega
theorem RdV.kidT {T : Nat → Nat → Int32} {G : RG} {f29 f30 f31 f32 f36 f37 f38 : Nat → Int32} {se nd bs n w p c P d x : Nat} {b : Int32} (h : RdV T G f29 f30 f31 f32 f36 f37 f38 se nd bs) (hv : ¬ G.V n) (hc : TruO G f29 c P) (hP : P + d ≤ p) (e : ndF T (G.add n w p b).mb f29 f30 f31 f32 f36 f37 f38 x n = nI c) :
    KidT (ndF T (G.add n w p b).mb f29 f30 f31 f32 f36 f37 f38) (G.add n w p b).V (G.add n w p b).dp (G.add n w p b).pd n x d c := by
  have hcn : c ≠ n := fun e => hv (e ▸ hc.1)
  refine ⟨⟨e, h.lt hc.1⟩, Or.inr hc.1, ?_, ?_, hc.2.1⟩
  · show (if c = n then G.vN else G.dp c) < (if n = n then G.vN else G.dp n)
    rw [if_neg hcn, if_pos rfl]; exact (h.2.1 c hc.1).2
  · show (if c = n then p else G.pd c) + d ≤ (if n = n then p else G.pd n)
    rw [if_neg hcn, if_pos rfl]; have := hc.2.2; omega

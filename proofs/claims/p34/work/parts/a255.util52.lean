/-- the nodes' part of the reader's state, against an earlier one -/
def RdK (T : Nat → Nat → Int32) (G : RG) (f29 f30 f31 f32 f36 f37 f38 : Nat → Int32) (G' : RG) (g29 g30 g31 g32 g36 g37 g38 : Nat → Int32) (se nd bs gl : Nat) : Prop := RdV T G' g29 g30 g31 g32 g36 g37 g38 se nd bs ∧ Ext gl bs G f29 f30 f31 f32 f36 f37 f38 G' g29 g30 g31 g32 g36 g37 g38 ∧ (∀ q, G.V q → q < nd) ∧ gl ≤ nd
theorem RdK.first {T : Nat → Nat → Int32} {G : RG} {f29 f30 f31 f32 f36 f37 f38 : Nat → Int32} {se nd bs gl : Nat} (h : RdV T G f29 f30 f31 f32 f36 f37 f38 se nd bs) (hg : gl ≤ nd) : RdK T G f29 f30 f31 f32 f36 f37 f38 G f29 f30 f31 f32 f36 f37 f38 se nd bs gl := ⟨h, Ext.refl (), fun q hq => (h.2.1 q hq).1, hg⟩
theorem LinO.node {G : RG} {g29 : Nat → Int32} {nd c P : Nat} {kv : Int32} (h : LinO G g29 c P) (hc : c < nd) (h4 : nd < 4000) : LinO G (upd g29 (nI nd).toNatClampNeg kv) c P := ⟨h.1, by rw [upd_at (by omega), if_neg (by omega)]; exact h.2.1, h.2.2⟩
theorem TruO.node {G : RG} {g29 : Nat → Int32} {nd c P : Nat} {kv : Int32} (h : TruO G g29 c P) (hc : c < nd) (h4 : nd < 4000) : TruO G (upd g29 (nI nd).toNatClampNeg kv) c P := ⟨h.1, by rw [upd_at (by omega), if_neg (by omega)]; exact h.2.1, h.2.2⟩
theorem RdK.node {T : Nat → Nat → Int32} {G G' : RG} {f29 f30 f31 f32 f36 f37 f38 g29 g30 g31 g32 g36 g37 g38 : Nat → Int32} {se nd bs gl : Nat} {kv av bv cv : Int32} (h : RdK T G f29 f30 f31 f32 f36 f37 f38 G' g29 g30 g31 g32 g36 g37 g38 se nd bs gl) (h4 : nd < 4000) : RdK T G f29 f30 f31 f32 f36 f37 f38 G' (upd g29 (nI nd).toNatClampNeg kv) (upd g30 (nI nd).toNatClampNeg av) (upd g31 (nI nd).toNatClampNeg bv) (upd g32 (nI nd).toNatClampNeg cv) g36 g37 g38 se (nd + 1) bs gl :=
  ⟨h.1.node (by omega), h.2.1.node h.2.2.2 (by omega) h.2.2.1, fun q hq => Nat.lt_succ_of_lt (h.2.2.1 q hq), Nat.le_succ_of_le h.2.2.2⟩
theorem RdK.nv {T : Nat → Nat → Int32} {G G' : RG} {f29 f30 f31 f32 f36 f37 f38 g29 g30 g31 g32 g36 g37 g38 : Nat → Int32} {se nd bs gl : Nat} (h : RdK T G f29 f30 f31 f32 f36 f37 f38 G' g29 g30 g31 g32 g36 g37 g38 se nd bs gl) : ¬ G'.V nd := fun q => absurd (h.1.2.1 nd q).1 (Nat.lt_irrefl _)
theorem RdK.nv0 {T : Nat → Nat → Int32} {G G' : RG} {f29 f30 f31 f32 f36 f37 f38 g29 g30 g31 g32 g36 g37 g38 : Nat → Int32} {se nd bs gl : Nat} (h : RdK T G f29 f30 f31 f32 f36 f37 f38 G' g29 g30 g31 g32 g36 g37 g38 se nd bs gl) : ¬ G.V nd := fun q => absurd (h.2.2.1 nd q) (Nat.lt_irrefl _)
theorem u_at {f : Nat → Int32} {n : Nat} {v w : Int32} (h4 : n < 4000) (e : v = w) : (upd f (nI n).toNatClampNeg v) n = w := by rw [upd_at (by omega), if_pos rfl]; exact e
theorem RdK.mkNum {T : Nat → Nat → Int32} {G G' : RG} {f29 f30 f31 f32 f36 f37 f38 g29 g30 g31 g32 g36 g37 g38 : Nat → Int32} {se nd bs gl : Nat} {kv av bv cv : Int32} {p : Nat} (h : RdK T G f29 f30 f31 f32 f36 f37 f38 G' g29 g30 g31 g32 g36 g37 g38 se nd bs gl) (h4 : nd < 4000) (hk : kv = nI 0) (hp : 1 ≤ p) (ha : -1000200 ≤ av.toInt ∧ av.toInt ≤ 1000200) : RdK T G f29 f30 f31 f32 f36 f37 f38 (G'.add nd 0 p 0) (upd g29 (nI nd).toNatClampNeg kv) (upd g30 (nI nd).toNatClampNeg av) (upd g31 (nI nd).toNatClampNeg bv) (upd g32 (nI nd).toNatClampNeg cv) g36 g37 g38 se (nd + 1) bs gl ∧ LinO (G'.add nd 0 p 0) (upd g29 (nI nd).toNatClampNeg kv) nd p := by
  have h1 := h.node (kv := kv) (av := av) (bv := bv) (cv := cv) h4
  have hv := h.nv
  have hk9 : (upd g29 (nI nd).toNatClampNeg kv) nd = kv := u_at h4 rfl
  exact ⟨⟨h1.1.num hv (Nat.lt_succ_self _) h4 (hk9.trans hk) hp (by rw [u_at h4 rfl]; exact ha), h1.2.1.add h.2.2.2 h.nv0, h1.2.2.1, h1.2.2.2⟩, LinO.new (hk9.trans hk) (by omega)⟩
theorem RdK.mkBnd {T : Nat → Nat → Int32} {G G' : RG} {f29 f30 f31 f32 f36 f37 f38 g29 g30 g31 g32 g36 g37 g38 : Nat → Int32} {se nd bs gl : Nat} {kv av bv cv : Int32} {p : Nat} (h : RdK T G f29 f30 f31 f32 f36 f37 f38 G' g29 g30 g31 g32 g36 g37 g38 se nd bs gl) (h4 : nd < 4000) {x : Nat} (hk : kv = nI 1) (hp : 1 ≤ p) (hx : x < 60) (ha : av = nI x) : RdK T G f29 f30 f31 f32 f36 f37 f38 (G'.add nd 0 p 0) (upd g29 (nI nd).toNatClampNeg kv) (upd g30 (nI nd).toNatClampNeg av) (upd g31 (nI nd).toNatClampNeg bv) (upd g32 (nI nd).toNatClampNeg cv) g36 g37 g38 se (nd + 1) bs gl ∧ LinO (G'.add nd 0 p 0) (upd g29 (nI nd).toNatClampNeg kv) nd p := by
  have h1 := h.node (kv := kv) (av := av) (bv := bv) (cv := cv) h4
  have hv := h.nv
  have hk9 : (upd g29 (nI nd).toNatClampNeg kv) nd = kv := u_at h4 rfl
  exact ⟨⟨h1.1.bnd hv (Nat.lt_succ_self _) h4 (hk9.trans hk) hp hx (u_at h4 ha), h1.2.1.add h.2.2.2 h.nv0, h1.2.2.1, h1.2.2.2⟩, LinO.new (hk9.trans hk) (by omega)⟩
theorem RdK.mkTurn {T : Nat → Nat → Int32} {G G' : RG} {f29 f30 f31 f32 f36 f37 f38 g29 g30 g31 g32 g36 g37 g38 : Nat → Int32} {se nd bs gl : Nat} {kv av bv cv : Int32} {p : Nat} (h : RdK T G f29 f30 f31 f32 f36 f37 f38 G' g29 g30 g31 g32 g36 g37 g38 se nd bs gl) (h4 : nd < 4000) {c P : Nat} (hk : kv = nI 4) (hp : 1 ≤ p) (ha : av = nI c) (hc : LinO G' g29 c P) (hP : P ≤ p) : RdK T G f29 f30 f31 f32 f36 f37 f38 (G'.add nd (G'.wt c + 3) p 0) (upd g29 (nI nd).toNatClampNeg kv) (upd g30 (nI nd).toNatClampNeg av) (upd g31 (nI nd).toNatClampNeg bv) (upd g32 (nI nd).toNatClampNeg cv) g36 g37 g38 se (nd + 1) bs gl ∧ LinO (G'.add nd (G'.wt c + 3) p 0) (upd g29 (nI nd).toNatClampNeg kv) nd p := by
  have h1 := h.node (kv := kv) (av := av) (bv := bv) (cv := cv) h4
  have hv := h.nv
  have hk9 : (upd g29 (nI nd).toNatClampNeg kv) nd = kv := u_at h4 rfl
  exact ⟨⟨h1.1.turn hv (Nat.lt_succ_self _) h4 (hk9.trans hk) hp (u_at h4 ha) (hc.node (h.1.2.1 c hc.1).1 h4) hP, h1.2.1.add h.2.2.2 h.nv0, h1.2.2.1, h1.2.2.2⟩, LinO.new (hk9.trans hk) (by omega)⟩
theorem RdK.mkPair {T : Nat → Nat → Int32} {G G' : RG} {f29 f30 f31 f32 f36 f37 f38 g29 g30 g31 g32 g36 g37 g38 : Nat → Int32} {se nd bs gl : Nat} {kv av bv cv : Int32} {p : Nat} (h : RdK T G f29 f30 f31 f32 f36 f37 f38 G' g29 g30 g31 g32 g36 g37 g38 se nd bs gl) (h4 : nd < 4000) {k c d P Q : Nat} (hk : kv = nI k) (hkk : 5 ≤ k ∧ k ≤ 8) (ha : av = nI c) (hb : bv = nI d) (hc : LinO G' g29 c P) (hd : LinO G' g29 d Q) (hp : 2 ≤ p) (hP : P ≤ p) (hQ : Q + 1 ≤ p) : RdK T G f29 f30 f31 f32 f36 f37 f38 (G'.add nd (G'.wt c + G'.wt d + 3) p 0) (upd g29 (nI nd).toNatClampNeg kv) (upd g30 (nI nd).toNatClampNeg av) (upd g31 (nI nd).toNatClampNeg bv) (upd g32 (nI nd).toNatClampNeg cv) g36 g37 g38 se (nd + 1) bs gl ∧ LinO (G'.add nd (G'.wt c + G'.wt d + 3) p 0) (upd g29 (nI nd).toNatClampNeg kv) nd p := by
  have h1 := h.node (kv := kv) (av := av) (bv := bv) (cv := cv) h4
  have hv := h.nv
  have hk9 : (upd g29 (nI nd).toNatClampNeg kv) nd = kv := u_at h4 rfl
  exact ⟨⟨h1.1.pair hv (Nat.lt_succ_self _) h4 (hk9.trans hk) (Or.inl hkk) (u_at h4 ha) (u_at h4 hb) (hc.node (h.1.2.1 c hc.1).1 h4) (hd.node (h.1.2.1 d hd.1).1 h4) hp hP hQ, h1.2.1.add h.2.2.2 h.nv0, h1.2.2.1, h1.2.2.2⟩, LinO.new (hk9.trans hk) (by omega)⟩
theorem RdK.mkComp {T : Nat → Nat → Int32} {G G' : RG} {f29 f30 f31 f32 f36 f37 f38 g29 g30 g31 g32 g36 g37 g38 : Nat → Int32} {se nd bs gl : Nat} {kv av bv cv : Int32} {p : Nat} (h : RdK T G f29 f30 f31 f32 f36 f37 f38 G' g29 g30 g31 g32 g36 g37 g38 se nd bs gl) (h4 : nd < 4000) {c d P Q : Nat} (hk : kv = nI 13) (ha : av = nI c) (hb : bv = nI d) (hc : LinO G' g29 c P) (hd : LinO G' g29 d Q) (hp : 2 ≤ p) (hP : P ≤ p) (hQ : Q + 1 ≤ p) : RdK T G f29 f30 f31 f32 f36 f37 f38 (G'.add nd (G'.wt c + G'.wt d + 3) p 0) (upd g29 (nI nd).toNatClampNeg kv) (upd g30 (nI nd).toNatClampNeg av) (upd g31 (nI nd).toNatClampNeg bv) (upd g32 (nI nd).toNatClampNeg cv) g36 g37 g38 se (nd + 1) bs gl ∧ TruO (G'.add nd (G'.wt c + G'.wt d + 3) p 0) (upd g29 (nI nd).toNatClampNeg kv) nd p := by
  have h1 := h.node (kv := kv) (av := av) (bv := bv) (cv := cv) h4
  have hv := h.nv
  have hk9 : (upd g29 (nI nd).toNatClampNeg kv) nd = kv := u_at h4 rfl
  exact ⟨⟨h1.1.pair hv (Nat.lt_succ_self _) h4 (hk9.trans hk) (Or.inr rfl) (u_at h4 ha) (u_at h4 hb) (hc.node (h.1.2.1 c hc.1).1 h4) (hd.node (h.1.2.1 d hd.1).1 h4) hp hP hQ, h1.2.1.add h.2.2.2 h.nv0, h1.2.2.1, h1.2.2.2⟩, TruO.new (hk9.trans hk) (by omega) (by omega)⟩
theorem RdK.mkJoin {T : Nat → Nat → Int32} {G G' : RG} {f29 f30 f31 f32 f36 f37 f38 g29 g30 g31 g32 g36 g37 g38 : Nat → Int32} {se nd bs gl : Nat} {kv av bv cv : Int32} {p : Nat} (h : RdK T G f29 f30 f31 f32 f36 f37 f38 G' g29 g30 g31 g32 g36 g37 g38 se nd bs gl) (h4 : nd < 4000) {k c d P Q : Nat} (hk : kv = nI k) (hkk : k = 10 ∨ k = 11) (ha : av = nI c) (hb : bv = nI d) (hc : TruO G' g29 c P) (hd : TruO G' g29 d Q) (hP : P ≤ p) (hQ : Q ≤ p) : RdK T G f29 f30 f31 f32 f36 f37 f38 (G'.add nd (G'.wt c + G'.wt d + 3) p 0) (upd g29 (nI nd).toNatClampNeg kv) (upd g30 (nI nd).toNatClampNeg av) (upd g31 (nI nd).toNatClampNeg bv) (upd g32 (nI nd).toNatClampNeg cv) g36 g37 g38 se (nd + 1) bs gl ∧ TruO (G'.add nd (G'.wt c + G'.wt d + 3) p 0) (upd g29 (nI nd).toNatClampNeg kv) nd p := by
  have h1 := h.node (kv := kv) (av := av) (bv := bv) (cv := cv) h4
  have hv := h.nv
  have hk9 : (upd g29 (nI nd).toNatClampNeg kv) nd = kv := u_at h4 rfl
  exact ⟨⟨h1.1.join hv (Nat.lt_succ_self _) h4 (hk9.trans hk) hkk (u_at h4 ha) (u_at h4 hb) (hc.node (h.1.2.1 c hc.1).1 h4) (hd.node (h.1.2.1 d hd.1).1 h4) hP hQ, h1.2.1.add h.2.2.2 h.nv0, h1.2.2.1, h1.2.2.2⟩, TruO.new (hk9.trans hk) (by omega) (by omega)⟩
theorem RdK.mkNot {T : Nat → Nat → Int32} {G G' : RG} {f29 f30 f31 f32 f36 f37 f38 g29 g30 g31 g32 g36 g37 g38 : Nat → Int32} {se nd bs gl : Nat} {kv av bv cv : Int32} {p : Nat} (h : RdK T G f29 f30 f31 f32 f36 f37 f38 G' g29 g30 g31 g32 g36 g37 g38 se nd bs gl) (h4 : nd < 4000) {c P : Nat} (hk : kv = nI 12) (ha : av = nI c) (hc : TruO G' g29 c P) (hP : P ≤ p) : RdK T G f29 f30 f31 f32 f36 f37 f38 (G'.add nd (G'.wt c + 3) p 0) (upd g29 (nI nd).toNatClampNeg kv) (upd g30 (nI nd).toNatClampNeg av) (upd g31 (nI nd).toNatClampNeg bv) (upd g32 (nI nd).toNatClampNeg cv) g36 g37 g38 se (nd + 1) bs gl ∧ TruO (G'.add nd (G'.wt c + 3) p 0) (upd g29 (nI nd).toNatClampNeg kv) nd p := by
  have h1 := h.node (kv := kv) (av := av) (bv := bv) (cv := cv) h4
  have hv := h.nv
  have hk9 : (upd g29 (nI nd).toNatClampNeg kv) nd = kv := u_at h4 rfl
  exact ⟨⟨h1.1.not hv (Nat.lt_succ_self _) h4 (hk9.trans hk) (u_at h4 ha) (hc.node (h.1.2.1 c hc.1).1 h4) hP, h1.2.1.add h.2.2.2 h.nv0, h1.2.2.1, h1.2.2.2⟩, TruO.new (hk9.trans hk) (by omega) (by omega)⟩
theorem RdK.mkName {T : Nat → Nat → Int32} {G G' : RG} {f29 f30 f31 f32 f36 f37 f38 g29 g30 g31 g32 g36 g37 g38 : Nat → Int32} {se nd bs gl : Nat} {kv av bv cv : Int32} {p : Nat} (h : RdK T G f29 f30 f31 f32 f36 f37 f38 G' g29 g30 g31 g32 g36 g37 g38 se nd bs gl) (h4 : nd < 4000) {k a pl o1 o2 aT : Nat} (hkk : k = 2 ∨ k = 3) (hk : kv = nI k) (ha : av = nI a ∧ a < 44) (hS : NamS T se k a pl o1 o2 aT) (hp : 1 ≤ p) (h0 : pl = 0) (hb : bv = -1) (hc : cv = -1) : RdK T G f29 f30 f31 f32 f36 f37 f38 (G'.add nd 0 p 0) (upd g29 (nI nd).toNatClampNeg kv) (upd g30 (nI nd).toNatClampNeg av) (upd g31 (nI nd).toNatClampNeg bv) (upd g32 (nI nd).toNatClampNeg cv) g36 g37 g38 se (nd + 1) bs gl ∧ LinO (G'.add nd 0 p 0) (upd g29 (nI nd).toNatClampNeg kv) nd p := by
  have h1 := h.node (kv := kv) (av := av) (bv := bv) (cv := cv) h4
  have hv := h.nv
  have hk9 : (upd g29 (nI nd).toNatClampNeg kv) nd = kv := u_at h4 rfl
  exact ⟨⟨h1.1.name0 hv (Nat.lt_succ_self _) h4 hkk (hk9.trans hk) ⟨u_at h4 ha.1, ha.2⟩ hS hp h0 (u_at h4 hb) (u_at h4 hc), h1.2.1.add h.2.2.2 h.nv0, h1.2.2.1, h1.2.2.2⟩, LinO.new (hk9.trans hk) (by omega)⟩
/-- what the uppermost frame knows, kind by kind -/
theorem RTp.linear {T : Nat → Nat → Int32} {G : RG} {f29 f30 f31 f32 f36 f37 f38 f40 f41 f42 : Nat → Int32} {wd sg res : Int32} {se bs i w u ex gl gm p1 n1 m1 tw : Nat} (h : RTp T G f29 f30 f31 f32 f36 f37 f38 f40 f41 f42 wd sg res se bs i 0 w u ex gl gm p1 n1 m1 tw) :
    (f40 i = 0 ∧ f41 i = -1 ∧ f42 i = -1 ∧ p1 = 0 ∧ n1 = 0 ∧ m1 = 0 ∧ gm = gl ∧ ex = 1 ∧ tw = 3) ∨ (f40 i = 1 ∧ n1 = 0 ∧ m1 = 0 ∧ gl ≤ gm ∧ ex = 1 ∧ tw = 1 ∧ ∃ a b c, OpL G f29 (f41 i) (51 - 2 * w) a ∧ OpL G f29 (f42 i) (50 - 2 * w) b ∧ p1 = a + b ∧ res = nI c ∧ w ≤ 24 ∧ LinO G f29 c (49 - 2 * w)) := by
  rcases h with ⟨h1, h2, h3, ⟨a1, a2, a3, a4⟩, ⟨_, a5⟩, _, h4⟩ | ⟨h1, ck, ⟨⟨_, b1, _, b2⟩, h2⟩, c, h3, h4⟩
  · exact Or.inl ⟨h1, h2, h3, a1, a2, a3, a4, a5 (by decide), by omega⟩
  · rcases h2 with ⟨_, d1, d2, d3, d4, a, b, d5, d6, d7⟩ | h | h | h | h | h | h | h | h | h | h | h
    · rcases h4 with ⟨e1, e2, e3⟩ | h4 | h4
      · exact Or.inr ⟨d2, d3, d4, b2, b1 (by decide), h1, a, b, c, d5, d6, d7, h3, e2, e3⟩
      · exact absurd h4.1 (by omega)
      · exact absurd h4.1 (by omega)
    all_goals exact absurd h.1 (by decide)
theorem RTp.truth {T : Nat → Nat → Int32} {G : RG} {f29 f30 f31 f32 f36 f37 f38 f40 f41 f42 : Nat → Int32} {wd sg res : Int32} {se bs i w u ex gl gm p1 n1 m1 tw : Nat} (h : RTp T G f29 f30 f31 f32 f36 f37 f38 f40 f41 f42 wd sg res se bs i 2 w u ex gl gm p1 n1 m1 tw) :
    (f40 i = 0 ∧ f41 i = -1 ∧ f42 i = -1 ∧ p1 = 0 ∧ n1 = 0 ∧ m1 = 0 ∧ gm = gl ∧ ex = 1 ∧ tw = 7) ∨ (f40 i = 1 ∧ n1 = 0 ∧ m1 = 0 ∧ gl ≤ gm ∧ ex = 1 ∧ tw = 1 ∧ ∃ a b c, OpT G f29 (f41 i) (51 - 2 * w) a ∧ OpT G f29 (f42 i) (51 - 2 * w) b ∧ p1 = a + b ∧ res = nI c ∧ TruO G f29 c (51 - 2 * w)) := by
  rcases h with ⟨h1, h2, h3, ⟨a1, a2, a3, a4⟩, ⟨_, a5⟩, _, h4⟩ | ⟨h1, ck, ⟨⟨_, b1, _, b2⟩, h2⟩, c, h3, h4⟩
  · exact Or.inl ⟨h1, h2, h3, a1, a2, a3, a4, a5 (by decide), by omega⟩
  · rcases h2 with h | h | h | h | h | h | h | ⟨_, d1, d2, d3, d4, a, b, d5, d6, d7⟩ | h | h | h | h
    · exact absurd h.1 (by decide)
    · exact absurd h.1 (by decide)
    · exact absurd h.1 (by decide)
    · exact absurd h.1 (by decide)
    · exact absurd h.1 (by decide)
    · exact absurd h.1 (by decide)
    · exact absurd h.1 (by decide)
    · rcases h4 with h4 | h4 | ⟨e1, e2, e3⟩
      · exact absurd h4.1 (by omega)
      · exact absurd h4.1 (by omega)
      · exact Or.inr ⟨d2, d3, d4, b2, b1 (by decide), h1, a, b, c, d5, d6, d7, h3, e3⟩
    · exact absurd h.1 (by decide)
    · exact absurd h.1 (by decide)
    · exact absurd h.1 (by decide)
    · exact absurd h.1 (by decide)

/-! ways: lengths to a node -/
/-- no arc makes a length shorter -/
def pFea (d : NtD) (w : Nat → Int) (f : Nat → Int) : Prop := ∀ b : Nat, (b : Int) < d.1 → f (tTo d b) < 536870912 → f (tFr d b) ≤ f (tTo d b) + w b
/-- each length is of an arc -/
def pSup (d : NtD) (w : Nat → Int) (t : Nat) (f : Nat → Int) : Prop := ∀ n, n < 12 → n ≠ t → f n < 536870912 → ∃ b : Nat, (b : Int) < d.1 ∧ tFr d b = n ∧ f (tTo d b) < 536870912 ∧ f n = f (tTo d b) + w b
def pSg (d : NtD) (w : Nat → Int) (t : Nat) (f : Nat → Int) : Prop := ∀ n, n < 12 → n ≠ t → f n < 536870912 → ∃ b : Nat, (b : Int) < d.1 ∧ tFr d b = n ∧ f (tTo d b) < 536870912 ∧ f (tTo d b) + w b ≤ f n
def pBd (t : Nat) (f : Nat → Int) : Prop := f t = 0 ∧ ∀ n, n < 12 → 0 ≤ f n ∧ f n ≤ 536870912
def pDis (d : NtD) (w : Nat → Int) (t : Nat) (f : Nat → Int) : Prop := pBd t f ∧ pFea d w f ∧ pSup d w t f
theorem pSg.sup {d : NtD} {w : Nat → Int} {t : Nat} {f : Nat → Int} (h : pSg d w t f) (hf : pFea d w f) : pSup d w t f := by
  intro n hn ht hF
  obtain ⟨b, h1, h2, h3, h4⟩ := h n hn ht hF
  have h5 := hf b h1 h3
  rw [h2] at h5
  exact ⟨b, h1, h2, h3, by omega⟩
def w16 (d : NtD) (b : Nat) : Int := 16 * tCo d b + 1
def w64 (d : NtD) (b : Nat) : Int := 64 * tCo d b + 1
theorem pDis.le {d : NtD} {w : Nat → Int} {t : Nat} {f g : Nat → Int} (hv : tVal d) (hw : ∀ b : Nat, (b : Int) < d.1 → 0 < w b) (hf : pDis d w t f) (hg : pDis d w t g) : ∀ (m n : Nat), n < 12 → g n ≤ (m : Int) → g n < 536870912 → f n ≤ g n := by
  intro m
  induction m with
  | zero =>
    intro n hn hm hF
    by_cases e : n = t
    · subst e
      rw [hf.1.1, hg.1.1]; exact Int.le_refl _
    · obtain ⟨b, h1, h2, h3, h4⟩ := hg.2.2 n hn e hF
      have := hw b h1
      have := (hg.1.2 (tTo d b) (hv b h1).2.1).1
      omega
  | succ m ih =>
    intro n hn hm hF
    by_cases e : n = t
    · subst e
      rw [hf.1.1, hg.1.1]; exact Int.le_refl _
    · obtain ⟨b, h1, h2, h3, h4⟩ := hg.2.2 n hn e hF
      have h5 := hw b h1
      have h6 := ih (tTo d b) (hv b h1).2.1 (by omega) h3
      have h7 := hf.2.1 b h1 (by omega)
      rw [h2] at h7
      omega
theorem pDis.eq {d : NtD} {w : Nat → Int} {t : Nat} {f g : Nat → Int} (hv : tVal d) (hw : ∀ b : Nat, (b : Int) < d.1 → 0 < w b) (hf : pDis d w t f) (hg : pDis d w t g) (n : Nat) (hn : n < 12) : f n = g n := by
  have a1 := hf.1.2 n hn
  have a2 := hg.1.2 n hn
  by_cases e1 : g n < 536870912
  · have h1 := hf.le hv hw hg (g n).toNat n hn (by omega) e1
    have h2 := hg.le hv hw hf (f n).toNat n hn (by omega) (by omega)
    omega
  · by_cases e2 : f n < 536870912
    · have h2 := hg.le hv hw hf (f n).toNat n hn (by omega) e2
      omega
    · omega
/-- how many are shorter -/
def pRk (f : Nat → Int) (n : Nat) : Nat := cntB (fun m => decide (f m < f n)) 12
theorem pRk.bd {f : Nat → Int} {n : Nat} (hn : n < 12) : pRk f n ≤ 11 := by
  have h := cntB_miss (p := fun m => decide (f m < f n)) (n := 12) (i := n) hn (decide_eq_false (by omega))
  unfold pRk; omega
theorem pRk.lt {f : Nat → Int} {m n : Nat} (hm : m < 12) (h : f m < f n) : pRk f m + 1 ≤ pRk f n := by
  unfold pRk
  exact cntB_lt (i := m) (fun i _ hi => decide_eq_true (by have := of_decide_eq_true hi; omega)) hm (decide_eq_false (by omega)) (decide_eq_true h)
/-- a length is so many times K, and its arcs -/
theorem pDis.parts {d : NtD} {w : Nat → Int} {t : Nat} {f : Nat → Int} (K : Int) (hv : tVal d) (hw : ∀ b, w b = K * tCo d b + 1) (hK : 0 ≤ K) (hf : pDis d w t f) : ∀ (m n : Nat), n < 12 → f n ≤ (m : Int) → f n < 536870912 → ∃ C k : Int, f n = K * C + k ∧ 0 ≤ C ∧ 0 ≤ k ∧ k ≤ (pRk f n : Int) ∧ C ≤ 1000 * k := by
  have hp : ∀ b : Nat, (b : Int) < d.1 → 0 < w b := by
    intro b hb
    have h1 := (hv b hb).2.2.1
    have h2 := Int.mul_nonneg hK h1
    rw [hw b]; omega
  have h0 : ∀ n, n = t → f n = K * 0 + 0 := by
    intro n e; rw [e, hf.1.1, Int.mul_zero]; rfl
  intro m
  induction m with
  | zero =>
    intro n hn hm hF
    by_cases e : n = t
    · exact ⟨0, 0, h0 n e, by omega, by omega, by omega, by omega⟩
    · obtain ⟨b, h1, h2, h3, h4⟩ := hf.2.2 n hn e hF
      have := hp b h1
      have := (hf.1.2 (tTo d b) (hv b h1).2.1).1
      omega
  | succ m ih =>
    intro n hn hm hF
    by_cases e : n = t
    · exact ⟨0, 0, h0 n e, by omega, by omega, by omega, by omega⟩
    · obtain ⟨b, h1, h2, h3, h4⟩ := hf.2.2 n hn e hF
      have h5 := hp b h1
      obtain ⟨C, k, g1, g2, g3, g4, g5⟩ := ih (tTo d b) (hv b h1).2.1 (by omega) h3
      have h6 := pRk.lt (f := f) (m := tTo d b) (n := n) (hv b h1).2.1 (by omega)
      have h7 := (hv b h1).2.2
      refine ⟨C + tCo d b, k + 1, ?_, by omega, by omega, by omega, by omega⟩
      rw [h4, g1, hw b, Int.mul_add]; omega
theorem pDis.p16 {d : NtD} {t : Nat} {f : Nat → Int} (hv : tVal d) (hf : pDis d (w16 d) t f) (n : Nat) (hn : n < 12) (hF : f n < 536870912) : ∃ C k : Int, f n = 16 * C + k ∧ 0 ≤ C ∧ 0 ≤ k ∧ k ≤ 11 ∧ C ≤ 11000 := by
  obtain ⟨C, k, h1, h2, h3, h4, h5⟩ := hf.parts 16 hv (fun _ => rfl) (by omega) (f n).toNat n hn (by have := (hf.1.2 n hn).1; omega) hF
  have := pRk.bd (f := f) hn
  exact ⟨C, k, h1, h2, h3, by omega, by omega⟩
theorem pDis.p64 {d : NtD} {t : Nat} {f : Nat → Int} (hv : tVal d) (hf : pDis d (w64 d) t f) (n : Nat) (hn : n < 12) (hF : f n < 536870912) : ∃ C k : Int, f n = 64 * C + k ∧ 0 ≤ C ∧ 0 ≤ k ∧ k ≤ 11 ∧ C ≤ 11000 := by
  obtain ⟨C, k, h1, h2, h3, h4, h5⟩ := hf.parts 64 hv (fun _ => rfl) (by omega) (f n).toNat n hn (by have := (hf.1.2 n hn).1; omega) hF
  have := pRk.bd (f := f) hn
  exact ⟨C, k, h1, h2, h3, by omega, by omega⟩
/-- lengths of the other kind -/
def pCv (x : Int) : Int := if x < 536870912 then 16 * (x / 64) + x % 64 else 536870912
theorem pCv.at {x C k : Int} (h : x = 64 * C + k) (h0 : 0 ≤ k) (h1 : k ≤ 11) (hF : x < 536870912) : pCv x = 16 * C + k := by
  unfold pCv
  rw [if_pos hF]
  omega
theorem pDis.conv {d : NtD} {t : Nat} {f : Nat → Int} (hv : tVal d) (hf : pDis d (w64 d) t f) : pDis d (w16 d) t (fun n => pCv (f n)) := by
  have far : ∀ n, ¬ f n < 536870912 → pCv (f n) = 536870912 := fun n h => by unfold pCv; rw [if_neg h]
  have lt : ∀ n, n < 12 → pCv (f n) < 536870912 → f n < 536870912 := by
    intro n hn h
    by_cases e : f n < 536870912
    · exact e
    · rw [far n e] at h; omega
  refine ⟨⟨?_, fun n hn => ?_⟩, fun b hb hF => ?_, fun n hn ht hF => ?_⟩
  · show pCv (f t) = 0
    rw [hf.1.1]; rfl
  · show 0 ≤ pCv (f n) ∧ pCv (f n) ≤ 536870912
    by_cases e : f n < 536870912
    · obtain ⟨C, k, h1, h2, h3, h4, h5⟩ := hf.p64 hv n hn e
      rw [pCv.at h1 h3 h4 e]; omega
    · rw [far n e]; omega
  · have hF2 := lt _ (hv b hb).2.1 hF
    have h6 := hf.2.1 b hb hF2
    obtain ⟨C, k, h1, h2, h3, h4, h5⟩ := hf.p64 hv _ (hv b hb).2.1 hF2
    have hc := (hv b hb).2.2
    show pCv (f (tFr d b)) ≤ pCv (f (tTo d b)) + w16 d b
    unfold w64 at h6
    obtain ⟨C1, k1, g1, g2, g3, g4, g5⟩ := hf.p64 hv _ (hv b hb).1 (by omega)
    rw [pCv.at h1 h3 h4 hF2, pCv.at g1 g3 g4 (by omega)]
    unfold w16
    omega
  · have hF2 := lt n hn hF
    obtain ⟨b, h1, h2, h3, h4⟩ := hf.2.2 n hn ht hF2
    obtain ⟨C, k, g1, g2, g3, g4, g5⟩ := hf.p64 hv n hn hF2
    obtain ⟨C1, k1, e1, e2, e3, e4, e5⟩ := hf.p64 hv _ (hv b h1).2.1 h3
    have hc := (hv b h1).2.2
    unfold w64 at h4
    refine ⟨b, h1, h2, ?_, ?_⟩
    · show pCv (f (tTo d b)) < 536870912
      rw [pCv.at e1 e3 e4 h3]; omega
    · show pCv (f n) = pCv (f (tTo d b)) + w16 d b
      rw [pCv.at g1 g3 g4 hF2, pCv.at e1 e3 e4 h3]
      unfold w16
      omega
/-- an arc on a shortest way -/
def pOn (d : NtD) (w : Nat → Int) (f : Nat → Int) (n b : Nat) : Prop := (b : Int) < d.1 ∧ tFr d b = n ∧ f (tTo d b) < 536870912 ∧ f (tTo d b) + w b = f n
/-- the next node -/
def pNx (d : NtD) (w : Nat → Int) (f : Nat → Int) (n r : Nat) : Prop := (∃ b, pOn d w f n b ∧ tTo d b = r) ∧ ∀ b, pOn d w f n b → r ≤ tTo d b
theorem pNx.eq {d : NtD} {w : Nat → Int} {f : Nat → Int} {n r q : Nat} (h : pNx d w f n r) (h2 : pNx d w f n q) : r = q := by
  obtain ⟨⟨b, h3, h4⟩, h5⟩ := h
  obtain ⟨⟨c, g3, g4⟩, g5⟩ := h2
  have := h5 c g3
  have := g5 b h3
  omega
theorem pOn.conv {d : NtD} {t : Nat} {f : Nat → Int} (hv : tVal d) (hf : pDis d (w64 d) t f) {n b : Nat} (hn : n < 12) (hF : f n < 536870912) : pOn d (w16 d) (fun n => pCv (f n)) n b ↔ pOn d (w64 d) f n b := by
  obtain ⟨C, k, g1, g2, g3, g4, g5⟩ := hf.p64 hv n hn hF
  unfold pOn
  constructor
  · rintro ⟨h1, h2, h3, h4⟩
    have h3 : pCv (f (tTo d b)) < 536870912 := h3
    have h4 : pCv (f (tTo d b)) + w16 d b = pCv (f n) := h4
    have hF2 : f (tTo d b) < 536870912 := by
      by_cases e : f (tTo d b) < 536870912
      · exact e
      · unfold pCv at h3; rw [if_neg e] at h3; omega
    obtain ⟨C1, k1, e1, e2, e3, e4, e5⟩ := hf.p64 hv _ (hv b h1).2.1 hF2
    rw [pCv.at g1 g3 g4 hF, pCv.at e1 e3 e4 hF2] at h4
    unfold w16 at h4
    refine ⟨h1, h2, hF2, ?_⟩
    unfold w64
    omega
  · rintro ⟨h1, h2, h3, h4⟩
    obtain ⟨C1, k1, e1, e2, e3, e4, e5⟩ := hf.p64 hv _ (hv b h1).2.1 h3
    unfold w64 at h4
    refine ⟨h1, h2, ?_, ?_⟩
    · show pCv (f (tTo d b)) < 536870912
      rw [pCv.at e1 e3 e4 h3]; omega
    · show pCv (f (tTo d b)) + w16 d b = pCv (f n)
      rw [pCv.at g1 g3 g4 hF, pCv.at e1 e3 e4 h3]
      unfold w16
      omega
theorem pNx.conv {d : NtD} {t : Nat} {f : Nat → Int} (hv : tVal d) (hf : pDis d (w64 d) t f) {n r : Nat} (hn : n < 12) (hF : f n < 536870912) (h : pNx d (w64 d) f n r) : pNx d (w16 d) (fun n => pCv (f n)) n r := by
  obtain ⟨⟨b, h3, h4⟩, h5⟩ := h
  exact ⟨⟨b, (pOn.conv hv hf hn hF).mpr h3, h4⟩, fun c hc => h5 c ((pOn.conv hv hf hn hF).mp hc)⟩
/-- node i of the way -/
def pWay (d : NtD) (w : Nat → Int) (t : Nat) (f : Nat → Int) (s : Nat) : Nat → Nat → Prop
  | 0, r => r = s
  | i + 1, r => ∃ m, pWay d w t f s i m ∧ m ≠ t ∧ pNx d w f m r
theorem pWay.eq {d : NtD} {w : Nat → Int} {t : Nat} {f : Nat → Int} {s : Nat} : ∀ {i r q : Nat}, pWay d w t f s i r → pWay d w t f s i q → r = q := by
  intro i
  induction i with
  | zero => intro r q h h2; exact Eq.trans h (Eq.symm h2)
  | succ i ih =>
    intro r q h h2
    obtain ⟨m, h3, _, h4⟩ := h
    obtain ⟨k, g3, _, g4⟩ := h2
    have := ih h3 g3
    subst this
    exact h4.eq g4
/-- the answer of path -/
def pAns (d : NtD) (s t : Nat) (i r : Int) : Prop := ∃ f : Nat → Int, pDis d (w16 d) t f ∧ ((¬ f s < 536870912 ∧ ((i = -3 ∧ r = 0) ∨ (i ≠ -3 ∧ r = -1))) ∨ (f s < 536870912 ∧ ((i = -2 ∧ r = f s / 16) ∨ (i = -3 ∧ r = f s % 16 + 1) ∨ (i < 0 ∧ i ≠ -2 ∧ i ≠ -3 ∧ r = -1) ∨ (0 ≤ i ∧ f s % 16 < i ∧ r = -1) ∨ (0 ≤ i ∧ i ≤ f s % 16 ∧ 0 ≤ r ∧ pWay d (w16 d) t f s i.toNat r.toNat))))
theorem w16.pos {d : NtD} (hv : tVal d) (b : Nat) (hb : (b : Int) < d.1) : 0 < w16 d b := by
  have := (hv b hb).2.2.1
  unfold w16; omega
theorem w64.pos {d : NtD} (hv : tVal d) (b : Nat) (hb : (b : Int) < d.1) : 0 < w64 d b := by
  have := (hv b hb).2.2.1
  unfold w64; omega
theorem pOn.congr {d : NtD} {w : Nat → Int} {f g : Nat → Int} (hv : tVal d) (he : ∀ n, n < 12 → f n = g n) {n b : Nat} (hn : n < 12) (h : pOn d w f n b) : pOn d w g n b := by
  obtain ⟨h1, h2, h3, h4⟩ := h
  rw [he _ (hv b h1).2.1] at h3 h4
  rw [he n hn] at h4
  exact ⟨h1, h2, h3, h4⟩
theorem pNx.congr {d : NtD} {w : Nat → Int} {f g : Nat → Int} (hv : tVal d) (he : ∀ n, n < 12 → f n = g n) {n r : Nat} (hn : n < 12) (h : pNx d w f n r) : pNx d w g n r := by
  obtain ⟨⟨b, h3, h4⟩, h5⟩ := h
  exact ⟨⟨b, h3.congr hv he hn, h4⟩, fun c hc => h5 c (hc.congr hv (fun m hm => (he m hm).symm) hn)⟩
theorem pNx.node {d : NtD} {w : Nat → Int} {f : Nat → Int} (hv : tVal d) {n r : Nat} (h : pNx d w f n r) : r < 12 := by
  obtain ⟨⟨b, h3, h4⟩, _⟩ := h
  rw [← h4]; exact (hv b h3.1).2.1
theorem pWay.congr {d : NtD} {w : Nat → Int} {t : Nat} {f g : Nat → Int} {s : Nat} (hv : tVal d) (he : ∀ n, n < 12 → f n = g n) (hs : s < 12) : ∀ i r, pWay d w t f s i r → pWay d w t g s i r ∧ r < 12 := by
  intro i
  induction i with
  | zero =>
    intro r h
    have h : r = s := h
    exact ⟨h, by omega⟩
  | succ i ih =>
    intro r h
    obtain ⟨m, h3, h4, h5⟩ := h
    obtain ⟨g3, g4⟩ := ih m h3
    exact ⟨⟨m, g3, h4, h5.congr hv he g4⟩, h5.node hv⟩
theorem pAns.eq {d : NtD} {s t : Nat} {i r q : Int} (hv : tVal d) (hs : s < 12) (h : pAns d s t i r) (h2 : pAns d s t i q) : r = q := by
  obtain ⟨f, hf, h⟩ := h
  obtain ⟨g, hg, h2⟩ := h2
  have he := fun n hn => hf.eq hv (w16.pos hv) hg n hn
  have hes := he s hs
  rcases h with ⟨a1, a2⟩ | ⟨a1, a2⟩
  · rcases h2 with ⟨b1, b2⟩ | ⟨b1, b2⟩
    · omega
    · omega
  · rcases h2 with ⟨b1, b2⟩ | ⟨b1, b2⟩
    · omega
    · rcases a2 with a2 | a2 | a2 | a2 | ⟨x1, x2, x3, x4⟩
      · rcases b2 with b2 | b2 | b2 | b2 | ⟨y1, y2, y3, y4⟩ <;> omega
      · rcases b2 with b2 | b2 | b2 | b2 | ⟨y1, y2, y3, y4⟩ <;> omega
      · rcases b2 with b2 | b2 | b2 | b2 | ⟨y1, y2, y3, y4⟩ <;> omega
      · rcases b2 with b2 | b2 | b2 | b2 | ⟨y1, y2, y3, y4⟩ <;> omega
      · rcases b2 with b2 | b2 | b2 | b2 | ⟨y1, y2, y3, y4⟩
        · omega
        · omega
        · omega
        · omega
        · have h9 := (pWay.congr hv he hs _ _ x4).1.eq y4
          omega
/-- an arc makes a length shorter -/
theorem pSg.step {d : NtD} {w : Nat → Int} {t a : Nat} {f g : Nat → Int} (h : pSg d w t f) (hb : pBd t f) (ht : t < 12) (hv : tVal d) (ha : (a : Int) < d.1) (hw : 0 < w a) (hF : f (tTo d a) < 536870912) (hl : f (tTo d a) + w a < f (tFr d a)) (hg : ∀ n, n < 12 → g n = if n = tFr d a then f (tTo d a) + w a else f n) : pSg d w t g ∧ pBd t g := by
  have hn := hv a ha
  have htn : tFr d a ≠ tTo d a := by intro e; rw [e] at hl; omega
  have b2 := hb.2 (tTo d a) hn.2.1
  have b1 := hb.2 (tFr d a) hn.1
  have hft : tFr d a ≠ t := by intro e; rw [e, hb.1] at hl; omega
  have le : ∀ n, n < 12 → g n ≤ f n := by
    intro n h9
    rw [hg n h9]
    by_cases e : n = tFr d a
    · rw [if_pos e, e]; omega
    · rw [if_neg e]; exact Int.le_refl _
  refine ⟨fun n h1 h2 h3 => ?_, ?_, fun n h9 => ?_⟩
  · by_cases e : n = tFr d a
    · refine ⟨a, ha, e.symm, ?_, ?_⟩
      · rw [hg _ hn.2.1, if_neg (fun e9 => htn e9.symm)]; exact hF
      · rw [hg _ hn.2.1, if_neg (fun e9 => htn e9.symm), hg n h1, if_pos e]; exact Int.le_refl _
    · rw [hg n h1, if_neg e] at h3
      obtain ⟨b, g1, g2, g3, g4⟩ := h n h1 h2 h3
      have := le (tTo d b) (hv b g1).2.1
      refine ⟨b, g1, g2, by omega, ?_⟩
      rw [hg n h1, if_neg e]; omega
  · rw [hg t ht, if_neg (fun e => hft e.symm)]; exact hb.1
  · have := hb.2 n h9
    rw [hg n h9]
    by_cases e : n = tFr d a
    · rw [if_pos e]; omega
    · rw [if_neg e]; exact this
/-- the reference: within a turn; l: whether something became shorter -/
def rIn (d : NtD) (w : Nat → Int) (t : Nat) (f : Nat → Int) (i : Nat) (l : Int) : Prop := pSg d w t f ∧ pBd t f ∧ (l = 0 → ∀ b : Nat, b < i → (b : Int) < d.1 → f (tTo d b) < 536870912 → f (tFr d b) ≤ f (tTo d b) + w b)
theorem rIn.start {d : NtD} {w : Nat → Int} {t : Nat} {f : Nat → Int} (hf : ∀ n, n < 12 → f n = if n = t then 0 else 536870912) (ht : t < 12) : pSg d w t f ∧ pBd t f := by
  refine ⟨fun n hn hnt hF => ?_, ?_, fun n hn => ?_⟩
  · rw [hf n hn, if_neg hnt] at hF; omega
  · rw [hf t ht, if_pos rfl]
  · rw [hf n hn]
    by_cases e : n = t
    · rw [if_pos e]; omega
    · rw [if_neg e]; omega
theorem rIn.begin {d : NtD} {w : Nat → Int} {t : Nat} {f : Nat → Int} {l : Int} (h : pSg d w t f ∧ pBd t f) : rIn d w t f 0 l := ⟨h.1, h.2, fun _ b hb => absurd hb (Nat.not_lt_zero b)⟩
theorem rIn.skip {d : NtD} {w : Nat → Int} {t i : Nat} {f : Nat → Int} {l : Int} (h : rIn d w t f i l) (hs : ¬ f (tTo d i) < 536870912 ∨ f (tFr d i) ≤ f (tTo d i) + w i) : rIn d w t f (i + 1) l := by
  refine ⟨h.1, h.2.1, fun hl b hb hn hF => ?_⟩
  by_cases e : b = i
  · subst e
    rcases hs with hs | hs
    · exact absurd hF hs
    · exact hs
  · exact h.2.2 hl b (by omega) hn hF
theorem rIn.take {d : NtD} {w : Nat → Int} {t i : Nat} {f g : Nat → Int} {l l2 : Int} (h : rIn d w t f i l) (ht : t < 12) (hv : tVal d) (hi : (i : Int) < d.1) (hw : 0 < w i) (hF : f (tTo d i) < 536870912) (hl : f (tTo d i) + w i < f (tFr d i)) (hg : ∀ n, n < 12 → g n = if n = tFr d i then f (tTo d i) + w i else f n) (h2 : l2 ≠ 0) : rIn d w t g (i + 1) l2 := by
  have h9 := h.1.step h.2.1 ht hv hi hw hF hl hg
  exact ⟨h9.1, h9.2, fun e => absurd e h2⟩
theorem rIn.done {d : NtD} {w : Nat → Int} {t i : Nat} {f : Nat → Int} {l : Int} (h : rIn d w t f i l) (hi : d.1 ≤ (i : Int)) (hl : l = 0) : pDis d w t f := by
  have hf : pFea d w f := fun b hb hF => h.2.2 hl b (by omega) hb hF
  exact ⟨h.2.1, hf, h.1.sup hf⟩
/-- the class: lev tells in which turn a length became what it is -/
def mLev (f : Nat → Int) (j : Int) (lev : Nat → Int) : Prop := ∀ n, n < 12 → 0 ≤ lev n ∧ lev n ≤ (pRk f n : Int) ∧ lev n ≤ j
def mHd (d : NtD) (w : Nat → Int) (t : Nat) (f : Nat → Int) (j c : Int) : Prop := pSg d w t f ∧ pBd t f ∧ ∃ lev : Nat → Int, mLev f j lev ∧ (∀ b : Nat, (b : Int) < d.1 → f (tTo d b) < 536870912 → f (tFr d b) ≤ f (tTo d b) + w b ∨ j ≤ lev (tTo d b)) ∧ (c = 0 → pFea d w f)
def mIn (d : NtD) (w : Nat → Int) (t : Nat) (f : Nat → Int) (j : Int) (i : Nat) (c : Int) : Prop := pSg d w t f ∧ pBd t f ∧ ∃ lev : Nat → Int, mLev f j lev ∧ (∀ b : Nat, (b : Int) < d.1 → f (tTo d b) < 536870912 → f (tFr d b) ≤ f (tTo d b) + w b ∨ (b < i ∧ j ≤ lev (tTo d b)) ∨ (i ≤ b ∧ j - 1 ≤ lev (tTo d b))) ∧ (c = 0 → ∀ n, n < 12 → lev n < j)
theorem mHd.start {d : NtD} {w : Nat → Int} {t : Nat} {f : Nat → Int} {j c : Int} (hf : ∀ n, n < 12 → f n = if n = t then 0 else 536870912) (ht : t < 12) (hj : j = 0) (hc : c ≠ 0) : mHd d w t f j c := by
  have h9 := rIn.start (d := d) (w := w) hf ht
  exact ⟨h9.1, h9.2, fun _ => 0, fun n _ => ⟨by (try dsimp only); omega, by (try dsimp only); omega, by (try dsimp only); omega⟩, fun b _ _ => Or.inr (by (try dsimp only); omega), fun e => absurd e hc⟩
theorem mHd.go {d : NtD} {w : Nat → Int} {t : Nat} {f : Nat → Int} {j c c2 : Int} (h : mHd d w t f j c) : mIn d w t f (j + 1) 0 c2 := by
  obtain ⟨h1, h2, lev, h3, h4, _⟩ := h
  refine ⟨h1, h2, lev, fun n hn => ?_, fun b hb hF => ?_, fun _ n hn => ?_⟩
  · have := h3 n hn; omega
  · rcases h4 b hb hF with h5 | h5
    · exact Or.inl h5
    · exact Or.inr (Or.inr ⟨Nat.zero_le _, by omega⟩)
  · have := h3 n hn; omega
theorem mIn.skip {d : NtD} {w : Nat → Int} {t i : Nat} {f : Nat → Int} {j c : Int} (h : mIn d w t f j i c) (hs : ¬ f (tTo d i) < 536870912 ∨ f (tFr d i) ≤ f (tTo d i) + w i) : mIn d w t f j (i + 1) c := by
  obtain ⟨h1, h2, lev, h3, h4, h5⟩ := h
  refine ⟨h1, h2, lev, h3, fun b hb hF => ?_, h5⟩
  by_cases e : b = i
  · subst e
    rcases hs with hs | hs
    · exact absurd hF hs
    · exact Or.inl hs
  · rcases h4 b hb hF with h6 | ⟨h6, h7⟩ | ⟨h6, h7⟩
    · exact Or.inl h6
    · exact Or.inr (Or.inl ⟨by omega, h7⟩)
    · exact Or.inr (Or.inr ⟨by omega, h7⟩)
theorem pRk.grow {f g : Nat → Int} {n : Nat} (hn : n < 12) (hl : ∀ m, m < 12 → g m ≤ f m) (he : g n = f n) : pRk f n ≤ pRk g n := by
  unfold pRk
  exact cntB_mono (fun i hi h9 => decide_eq_true (by have := of_decide_eq_true h9; have := hl i hi; omega))
theorem mIn.take {d : NtD} {w : Nat → Int} {t i : Nat} {f g : Nat → Int} {j c c2 : Int} (h : mIn d w t f j i c) (ht : t < 12) (hv : tVal d) (hi : (i : Int) < d.1) (hw : 0 < w i) (hF : f (tTo d i) < 536870912) (hl : f (tTo d i) + w i < f (tFr d i)) (hg : ∀ n, n < 12 → g n = if n = tFr d i then f (tTo d i) + w i else f n) (h2 : c2 ≠ 0) : mIn d w t g j (i + 1) c2 := by
  obtain ⟨h1, h2b, lev, h3, h4, h5⟩ := h
  have h9 := h1.step h2b ht hv hi hw hF hl hg
  have hn := hv i hi
  have htn : tFr d i ≠ tTo d i := by intro e; rw [e] at hl; omega
  have le : ∀ n, n < 12 → g n ≤ f n := by
    intro n h8
    rw [hg n h8]
    by_cases e : n = tFr d i
    · rw [if_pos e, e]; omega
    · rw [if_neg e]; exact Int.le_refl _
  have gto : g (tTo d i) = f (tTo d i) := by rw [hg _ hn.2.1, if_neg (fun e => htn e.symm)]
  have gfr : g (tFr d i) = f (tTo d i) + w i := by rw [hg _ hn.1, if_pos rfl]
  have hlev : j - 1 ≤ lev (tTo d i) := by
    rcases h4 i hi hF with h6 | ⟨h6, _⟩ | ⟨_, h6⟩
    · omega
    · omega
    · exact h6
  have r1 := h3 (tTo d i) hn.2.1
  have r2 := pRk.grow (f := f) (g := g) hn.2.1 le gto
  have r3 := pRk.lt (f := g) (m := tTo d i) (n := tFr d i) hn.2.1 (by omega)
  have r0 := h3 (tFr d i) hn.1
  refine ⟨h9.1, h9.2, fun n => if n = tFr d i then j else lev n, fun n h8 => ?_, fun b hb hF2 => ?_, fun e => absurd e h2⟩
  · show 0 ≤ (if n = tFr d i then j else lev n) ∧ (if n = tFr d i then j else lev n) ≤ (pRk g n : Int) ∧ (if n = tFr d i then j else lev n) ≤ j
    by_cases e : n = tFr d i
    · rw [if_pos e, e]; omega
    · rw [if_neg e]
      have a1 := h3 n h8
      have a2 := pRk.grow (f := f) (g := g) h8 le (by rw [hg n h8, if_neg e])
      omega
  · show g (tFr d b) ≤ g (tTo d b) + w b ∨ (b < i + 1 ∧ j ≤ (if tTo d b = tFr d i then j else lev (tTo d b))) ∨ (i + 1 ≤ b ∧ j - 1 ≤ (if tTo d b = tFr d i then j else lev (tTo d b)))
    have hnb := hv b hb
    by_cases e : tTo d b = tFr d i
    · rw [if_pos e]
      by_cases e2 : b < i + 1
      · exact Or.inr (Or.inl ⟨e2, Int.le_refl _⟩)
      · exact Or.inr (Or.inr ⟨by omega, by omega⟩)
    · rw [if_neg e]
      have gb : g (tTo d b) = f (tTo d b) := by rw [hg _ hnb.2.1, if_neg e]
      rw [gb] at hF2
      by_cases e3 : b = i
      · subst e3
        rw [gfr, gto]; exact Or.inl (Int.le_refl _)
      · have l1 := le (tFr d b) hnb.1
        rcases h4 b hb hF2 with h6 | ⟨h6, h7⟩ | ⟨h6, h7⟩
        · rw [gb]; exact Or.inl (by omega)
        · exact Or.inr (Or.inl ⟨by omega, h7⟩)
        · exact Or.inr (Or.inr ⟨by omega, h7⟩)
theorem mIn.out {d : NtD} {w : Nat → Int} {t i : Nat} {f : Nat → Int} {j c : Int} (hv : tVal d) (h : mIn d w t f j i c) (hi : d.1 ≤ (i : Int)) : mHd d w t f j c := by
  obtain ⟨h1, h2, lev, h3, h4, h5⟩ := h
  have h6 : ∀ b : Nat, (b : Int) < d.1 → f (tTo d b) < 536870912 → f (tFr d b) ≤ f (tTo d b) + w b ∨ j ≤ lev (tTo d b) := by
    intro b hb hF
    rcases h4 b hb hF with h6 | ⟨_, h7⟩ | ⟨h6, _⟩
    · exact Or.inl h6
    · exact Or.inr h7
    · omega
  refine ⟨h1, h2, lev, h3, h6, fun hc b hb hF => ?_⟩
  rcases h6 b hb hF with h7 | h7
  · exact h7
  · have := h5 hc (tTo d b) (hv b hb).2.1; omega
theorem mHd.done {d : NtD} {w : Nat → Int} {t : Nat} {f : Nat → Int} {j c : Int} (hv : tVal d) (h : mHd d w t f j c) (hj : 12 ≤ j ∨ c = 0) : pDis d w t f := by
  obtain ⟨h1, h2, lev, h3, h4, h5⟩ := h
  have hf : pFea d w f := by
    rcases hj with hj | hj
    · intro b hb hF
      rcases h4 b hb hF with h6 | h6
      · exact h6
      · have a1 := h3 (tTo d b) (hv b hb).2.1
        have a2 := pRk.bd (f := f) (hv b hb).2.1
        omega
    · exact h5 hj
  exact ⟨h2, hf, h1.sup hf⟩
/-- the least of the next nodes so far; e: none yet -/
def pFo (d : NtD) (w : Nat → Int) (f : Nat → Int) (n : Nat) (e : Int) (i : Nat) (x : Int) : Prop := (x = e ∧ ∀ b, b < i → ¬ pOn d w f n b) ∨ (x ≠ e ∧ 0 ≤ x ∧ (∃ b, b < i ∧ pOn d w f n b ∧ ((tTo d b : Nat) : Int) = x) ∧ ∀ b, b < i → pOn d w f n b → x ≤ ((tTo d b : Nat) : Int))
theorem pFo.start {d : NtD} {w : Nat → Int} {f : Nat → Int} {n : Nat} {e : Int} : pFo d w f n e 0 e := Or.inl ⟨rfl, fun b hb => absurd hb (Nat.not_lt_zero b)⟩
theorem pFo.no {d : NtD} {w : Nat → Int} {f : Nat → Int} {n i : Nat} {e x : Int} (h : pFo d w f n e i x) (hi : ¬ pOn d w f n i) : pFo d w f n e (i + 1) x := by
  rcases h with ⟨h1, h2⟩ | ⟨h1, h2, ⟨b, h3, h4⟩, h5⟩
  · refine Or.inl ⟨h1, fun b hb => ?_⟩
    by_cases e9 : b = i
    · rw [e9]; exact hi
    · exact h2 b (by omega)
  · refine Or.inr ⟨h1, h2, ⟨b, by omega, h4⟩, fun c hc hc2 => ?_⟩
    by_cases e9 : c = i
    · rw [e9] at hc2; exact absurd hc2 hi
    · exact h5 c (by omega) hc2
theorem pFo.take {d : NtD} {w : Nat → Int} {f : Nat → Int} {n i : Nat} {e x y : Int} (h : pFo d w f n e i x) (hi : pOn d w f n i) (hy : y = ((tTo d i : Nat) : Int)) (hx : x = e ∨ y < x) (he : y ≠ e) : pFo d w f n e (i + 1) y := by
  subst hy
  refine Or.inr ⟨he, by omega, ⟨i, by omega, hi, rfl⟩, fun c hc hc2 => ?_⟩
  by_cases e9 : c = i
  · rw [e9]; exact Int.le_refl _
  · rcases h with ⟨h1, h2⟩ | ⟨h1, h2, _, h5⟩
    · exact absurd hc2 (h2 c (by omega))
    · have := h5 c (by omega) hc2
      rcases hx with hx | hx
      · exact absurd hx h1
      · omega
theorem pFo.keep {d : NtD} {w : Nat → Int} {f : Nat → Int} {n i : Nat} {e x : Int} (h : pFo d w f n e i x) (hx : x ≠ e) (hy : x ≤ ((tTo d i : Nat) : Int)) : pFo d w f n e (i + 1) x := by
  rcases h with ⟨h1, h2⟩ | ⟨h1, h2, ⟨b, h3, h4⟩, h5⟩
  · exact absurd h1 hx
  · refine Or.inr ⟨h1, h2, ⟨b, by omega, h4⟩, fun c hc hc2 => ?_⟩
    by_cases e9 : c = i
    · rw [e9]; exact hy
    · exact h5 c (by omega) hc2
theorem pFo.done {d : NtD} {w : Nat → Int} {f : Nat → Int} {n i : Nat} {e x : Int} (h : pFo d w f n e i x) (hi : d.1 ≤ (i : Int)) (hs : ∃ b, pOn d w f n b) : pNx d w f n x.toNat ∧ 0 ≤ x := by
  obtain ⟨b0, hb0⟩ := hs
  rcases h with ⟨h1, h2⟩ | ⟨h1, h2, ⟨b, h3, h4, h6⟩, h5⟩
  · exact absurd hb0 (h2 b0 (by have := hb0.1; omega))
  · refine ⟨⟨⟨b, h4, by omega⟩, fun c hc => ?_⟩, h2⟩
    have := h5 c (by have := hc.1; omega) hc
    omega
theorem pDis.some {d : NtD} {w : Nat → Int} {t : Nat} {f : Nat → Int} (hf : pDis d w t f) {n : Nat} (hn : n < 12) (ht : n ≠ t) (hF : f n < 536870912) : ∃ b, pOn d w f n b := by
  obtain ⟨b, h1, h2, h3, h4⟩ := hf.2.2 n hn ht hF
  exact ⟨b, h1, h2, h3, h4.symm⟩
theorem pNx.s16 {d : NtD} {t : Nat} {f : Nat → Int} (hv : tVal d) (hf : pDis d (w16 d) t f) {n r : Nat} (hn : n < 12) (hF : f n < 536870912) (h : pNx d (w16 d) f n r) : r < 12 ∧ f r < 536870912 ∧ f r % 16 = f n % 16 - 1 := by
  obtain ⟨⟨b, ⟨h1, h2, h3, h4⟩, h5⟩, _⟩ := h
  subst h5
  obtain ⟨C, k, g1, g2, g3, g4, g5⟩ := hf.p16 hv n hn hF
  obtain ⟨C1, k1, e1, e2, e3, e4, e5⟩ := hf.p16 hv _ (hv b h1).2.1 h3
  have hc := (hv b h1).2.2
  unfold w16 at h4
  exact ⟨(hv b h1).2.1, h3, by omega⟩
theorem pNx.s64 {d : NtD} {t : Nat} {f : Nat → Int} (hv : tVal d) (hf : pDis d (w64 d) t f) {n r : Nat} (hn : n < 12) (hF : f n < 536870912) (h : pNx d (w64 d) f n r) : r < 12 ∧ f r < 536870912 ∧ f r % 64 = f n % 64 - 1 := by
  obtain ⟨⟨b, ⟨h1, h2, h3, h4⟩, h5⟩, _⟩ := h
  subst h5
  obtain ⟨C, k, g1, g2, g3, g4, g5⟩ := hf.p64 hv n hn hF
  obtain ⟨C1, k1, e1, e2, e3, e4, e5⟩ := hf.p64 hv _ (hv b h1).2.1 h3
  have hc := (hv b h1).2.2
  unfold w64 at h4
  exact ⟨(hv b h1).2.1, h3, by omega⟩
theorem pWay.conv {d : NtD} {t : Nat} {f : Nat → Int} {s : Nat} (hv : tVal d) (hf : pDis d (w64 d) t f) (hs : s < 12) (hF : f s < 536870912) : ∀ i r, pWay d (w64 d) t f s i r → pWay d (w16 d) t (fun n => pCv (f n)) s i r ∧ r < 12 ∧ f r < 536870912 := by
  intro i
  induction i with
  | zero =>
    intro r h
    have h : r = s := h
    subst h
    exact ⟨rfl, hs, hF⟩
  | succ i ih =>
    intro r h
    obtain ⟨m, h3, h4, h5⟩ := h
    obtain ⟨g3, g4, g5⟩ := ih m h3
    have h6 := h5.s64 hv hf g4 g5
    exact ⟨⟨m, g3, h4, h5.conv hv hf g4 g5⟩, h6.1, h6.2.1⟩
theorem pA.far {d : NtD} {s t : Nat} {i r : Int} {f : Nat → Int} (hv : tVal d) (hf : pDis d (w64 d) t f) (hF : ¬ f s < 536870912) (h : (i = -3 ∧ r = 0) ∨ (i ≠ -3 ∧ r = -1)) : pAns d s t i r := by
  refine ⟨_, hf.conv hv, Or.inl ⟨?_, h⟩⟩
  show ¬ pCv (f s) < 536870912
  unfold pCv; rw [if_neg hF]; omega
theorem pA.near {d : NtD} {s t : Nat} {i r : Int} {f : Nat → Int} (hv : tVal d) (hf : pDis d (w64 d) t f) (hs : s < 12) (hF : f s < 536870912) (h : (i = -2 ∧ r = f s / 64) ∨ (i = -3 ∧ r = f s % 64 + 1) ∨ (i < 0 ∧ i ≠ -2 ∧ i ≠ -3 ∧ r = -1) ∨ (0 ≤ i ∧ f s % 64 < i ∧ r = -1) ∨ (0 ≤ i ∧ i ≤ f s % 64 ∧ 0 ≤ r ∧ pWay d (w64 d) t f s i.toNat r.toNat)) : pAns d s t i r := by
  obtain ⟨C, k, g1, g2, g3, g4, g5⟩ := hf.p64 hv s hs hF
  have e := pCv.at g1 g3 g4 hF
  have e1 : f s / 64 = C := by omega
  have e2 : f s % 64 = k := by omega
  have e3 : (16 * C + k) / 16 = C := by omega
  have e4 : (16 * C + k) % 16 = k := by omega
  refine ⟨_, hf.conv hv, Or.inr ⟨?_, ?_⟩⟩
  · show pCv (f s) < 536870912
    rw [e]; omega
  · show (i = -2 ∧ r = pCv (f s) / 16) ∨ (i = -3 ∧ r = pCv (f s) % 16 + 1) ∨ (i < 0 ∧ i ≠ -2 ∧ i ≠ -3 ∧ r = -1) ∨ (0 ≤ i ∧ pCv (f s) % 16 < i ∧ r = -1) ∨ (0 ≤ i ∧ i ≤ pCv (f s) % 16 ∧ 0 ≤ r ∧ pWay d (w16 d) t (fun n => pCv (f n)) s i.toNat r.toNat)
    rw [e, e3, e4]
    rw [e1, e2] at h
    rcases h with h | h | h | h | ⟨h1, h2, h3, h4⟩
    · exact Or.inl h
    · exact Or.inr (Or.inl h)
    · exact Or.inr (Or.inr (Or.inl h))
    · exact Or.inr (Or.inr (Or.inr (Or.inl h)))
    · exact Or.inr (Or.inr (Or.inr (Or.inr ⟨h1, h2, h3, (pWay.conv hv hf hs hF _ _ h4).1⟩)))
theorem dvN {x : Int32} {k : Nat} (h : 0 ≤ x.toInt) (h0 : 0 < k) (hk : k < 2 ^ 31) : (x / nI k).toInt = x.toInt / (k : Int) := by
  have hx := Int32.toInt_lt x
  have e := pk_div (a := x.toInt.toNat) (d := k) (by omega) h0 hk
  rw [nI_tz h] at e
  have hle := Nat.div_le_self x.toInt.toNat k
  rw [e, nI_toInt (by omega), Int.natCast_ediv]
  congr 1
  omega
theorem rmN {x : Int32} {k : Nat} (h : 0 ≤ x.toInt) (h0 : 0 < k) (hk : k < 2 ^ 31) : (x - x / nI k * nI k).toInt = x.toInt % (k : Int) := by
  have hx := Int32.toInt_lt x
  have e := pk_rem (a := x.toInt.toNat) (d := k) (by omega) h0 hk
  rw [nI_tz h] at e
  have hle := Nat.mod_lt x.toInt.toNat h0
  rw [e, nI_toInt (by omega), Int.natCast_emod]
  congr 1
  omega
theorem dv64 {x : Int32} (h : 0 ≤ x.toInt) : (x / 64).toInt = x.toInt / 64 := dvN (k := 64) h (by decide) (by decide)
theorem rm64 {x : Int32} (h : 0 ≤ x.toInt) : ((x - x / 64 * 64) + 1).toInt = x.toInt % 64 + 1 := by
  have e : (x - x / 64 * 64).toInt = x.toInt % 64 := rmN (k := 64) h (by decide) (by decide)
  rw [Int32.toInt_add, e, show (1 : Int32).toInt = 1 from by decide]
  exact Int.bmod_eq_of_le (by omega) (by omega)
/-- an arc on the way, of the reference -/
theorem pOn_iff {f95 f96 f97 f98 : Nat → Int32} {ar k x y n : Nat} {f : Nat → Int} (hk : k < ar) (hx : x < 12) (hy : y < 12) (ex : f95 k = nI x) (ey : f96 k = nI y) : pOn (((ar : Nat) : Int), f95, f96, f97, f98) (w64 (((ar : Nat) : Int), f95, f96, f97, f98)) f n k ↔ (x = n ∧ f y < 536870912 ∧ f y + (64 * (f98 k).toInt + 1) = f n) := by
  have e1 : tFr (((ar : Nat) : Int), f95, f96, f97, f98) k = x := by
    show (f95 k).toInt.toNat = x
    rw [ex, nI_toInt (by omega)]; omega
  have e2 : tTo (((ar : Nat) : Int), f95, f96, f97, f98) k = y := by
    show (f96 k).toInt.toNat = y
    rw [ey, nI_toInt (by omega)]; omega
  unfold pOn
  rw [e1, e2]
  constructor
  · rintro ⟨_, h2, h3, h4⟩; exact ⟨h2, h3, h4⟩
  · rintro ⟨h2, h3, h4⟩
    exact ⟨by show ((k : Nat) : Int) < ((ar : Nat) : Int); omega, h2, h3, h4⟩
theorem tTo_of {f95 f96 f97 f98 : Nat → Int32} {ar k y : Nat} (hy : y < 12) (ey : f96 k = nI y) : ((tTo (((ar : Nat) : Int), f95, f96, f97, f98) k : Nat) : Int) = ((y : Nat) : Int) := by
  show (((f96 k).toInt.toNat : Nat) : Int) = ((y : Nat) : Int)
  rw [ey, nI_toInt (by omega)]; omega
/-- what the reference has at the end of its turns -/
theorem FaO.dis {f95 f96 f97 f98 : Nat → Int32} {ar tN : Nat} {fa : Nat → Int32} (hA : ArO f95 f96 f97 f98 ar) (ht : tN < 12) (h : FaO f95 f96 f98 ar tN fa) (hc : FaC f95 f96 f98 ar fa) : pDis (((ar : Nat) : Int), f95, f96, f97, f98) (w64 (((ar : Nat) : Int), f95, f96, f97, f98)) tN (fun n => (fa n).toInt) := by
  have far : ∀ n, (fa n).toInt < 536870912 → fa n ≠ 536870912 := fun n h9 e => by rw [e] at h9; exact absurd h9 (by decide)
  have hf : pFea (((ar : Nat) : Int), f95, f96, f97, f98) (w64 (((ar : Nat) : Int), f95, f96, f97, f98)) (fun n => (fa n).toInt) := by
    intro b hb hF
    have hb2 : b < ar := by have h9 : ((b : Nat) : Int) < ((ar : Nat) : Int) := hb; omega
    obtain ⟨x, y, hx, hy, _, e1, e2, _, h3, h4⟩ := hA b hb2
    have ex : tFr (((ar : Nat) : Int), f95, f96, f97, f98) b = x := by
      show (f95 b).toInt.toNat = x
      rw [e1, nI_toInt (by omega)]; omega
    have ey : tTo (((ar : Nat) : Int), f95, f96, f97, f98) b = y := by
      show (f96 b).toInt.toNat = y
      rw [e2, nI_toInt (by omega)]; omega
    rw [ey] at hF
    rw [ex, ey]
    have h5 := hc b x y hb2 hx hy e1 e2 (far y hF)
    show (fa x).toInt ≤ (fa y).toInt + (64 * (f98 b).toInt + 1)
    omega
  refine ⟨⟨?_, fun n hn => ?_⟩, hf, pSg.sup (fun n hn hnt hF => ?_) hf⟩
  · show (fa tN).toInt = 0
    rw [h.1]; decide
  · have := h.bd hn
    exact ⟨this.1, this.2.1⟩
  · rcases h.2 n hn with h1 | ⟨_, _, h1 | ⟨a, y, g1, g2, g3, g4, g5, g6⟩⟩
    · exact absurd h1 (far n hF)
    · exact absurd h1 hnt
    · have ey : tTo (((ar : Nat) : Int), f95, f96, f97, f98) a = y := by
        show (f96 a).toInt.toNat = y
        rw [g4, nI_toInt (by omega)]; omega
      refine ⟨a, by show ((a : Nat) : Int) < ((ar : Nat) : Int); omega, ?_, ?_, ?_⟩
      · show (f95 a).toInt.toNat = n
        rw [g3, nI_toInt (by omega)]; omega
      · rw [ey]
        have h7 := h.bd g2
        have h8 := h7.2.2 g5
        show (fa y).toInt < 536870912
        omega
      · rw [ey]
        show (fa y).toInt + (64 * (f98 a).toInt + 1) ≤ (fa n).toInt
        omega
theorem fill_step {f g : Nat → Int32} {i x : Int32} (h : ∀ q : Nat, (q : Int) < i.toInt → f q = x) (h0 : 0 ≤ i.toInt) (hg : g = upd f i.toNatClampNeg x) : ∀ q : Nat, (q : Int) < i.toInt + 1 → g q = x := by
  subst hg
  intro q hq
  unfold upd
  have e0 : i.toNatClampNeg = i.toInt.toNat := rfl
  by_cases e : q = i.toNatClampNeg
  · rw [if_pos e]
  · rw [if_neg e]; exact h q (by omega)
theorem mPut {f g : Nat → Int32} {x y : Int32} {k : Nat} {v : Int} (hg : g = upd f x.toNatClampNeg y) (hx : x.toInt.toNat = k) (hy : y.toInt = v) : ∀ n, n < 12 → (g n).toInt = if n = k then v else (f n).toInt := by
  subst hg
  intro n _
  unfold upd
  have e0 : x.toNatClampNeg = k := hx
  rw [e0]
  by_cases e : n = k
  · rw [if_pos e, if_pos e]; exact hy
  · rw [if_neg e, if_neg e]
theorem mIni {f g : Nat → Int32} {x : Int32} (hf : ∀ q : Nat, q < 12 → f q = 536870912) (hg : g = upd f x.toNatClampNeg 0) : ∀ n, n < 12 → (g n).toInt = if n = x.toInt.toNat then 0 else 536870912 := by
  intro n hn
  have h := mPut (k := x.toInt.toNat) (v := 0) hg rfl (by decide) n hn
  rw [h, hf n hn]
  rfl
theorem dv16 {x : Int32} (h : 0 ≤ x.toInt) : (x / 16).toInt = x.toInt / 16 := dvN (k := 16) h (by decide) (by decide)
theorem rm16 {x : Int32} (h : 0 ≤ x.toInt) : (x - x / 16 * 16).toInt = x.toInt % 16 := rmN (k := 16) h (by decide) (by decide)

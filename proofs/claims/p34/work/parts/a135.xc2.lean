/-! clauses: what the class keeps beside them -/
def ClI (d : ClD) (br lo : Nat → Int32) (mu : Int32) : Prop := (∀ k, k < 4096 → ∀ i, bI (br k) i = true ↔ ((i : Int) < d.1 ∧ kN d i k = true)) ∧ (∀ k, k < 4096 → (lo k).toInt = cSum d k d.1.toNat) ∧ ∀ i, bI mu i = true ↔ ((i : Int) < d.1 ∧ (d.2.2.2 i).toInt = 0)
theorem ClI.z : ClI clZ (fun _ => 0) (fun _ => 0) 0 := by
  refine ⟨fun k _ i => ?_, fun k _ => ?_, fun i => ?_⟩
  · rw [bI_0]
    constructor
    · intro h; cases h
    · intro h
      have h9 : ((i : Nat) : Int) < 0 := h.1
      omega
  · rfl
  · rw [bI_0]
    constructor
    · intro h; cases h
    · intro h
      have h9 : ((i : Nat) : Int) < 0 := h.1
      omega
/-- rows below m are marked -/
def cMrk (a b i w : Int32) (br lo br2 lo2 : Nat → Int32) (m : Nat) : Prop := ∀ k, k < 4096 → ((k < m ∧ (nI k &&& a) = 0 ∧ (nI k &&& b) = b) → br2 k = br k ^^^ ((1 : Int32) <<< (i &&& 31)) ∧ lo2 k = iI ((lo k).toInt + w.toInt)) ∧ (¬ (k < m ∧ (nI k &&& a) = 0 ∧ (nI k &&& b) = b) → br2 k = br k ∧ lo2 k = lo k)
theorem cMrk.start {a b i w : Int32} {br lo : Nat → Int32} {m : Nat} (hm : m = 0) : cMrk a b i w br lo br lo m := fun k _ => ⟨fun h => absurd h.1 (by omega), fun _ => ⟨rfl, rfl⟩⟩
theorem cMrk.no {a b i w r : Int32} {br lo br2 lo2 : Nat → Int32} {m : Nat} (h : cMrk a b i w br lo br2 lo2 m) (hr : r.toInt.toNat = m) (h0 : 0 ≤ r.toInt) (hn : ¬ ((r &&& a) = 0 ∧ (r &&& b) = b)) : cMrk a b i w br lo br2 lo2 (m + 1) := by
  intro k hk
  by_cases e : k = m
  · have e2 : nI k = r := by rw [e, ← hr]; exact nI_tz h0
    rw [e2]
    exact ⟨fun h9 => absurd h9.2 hn, fun _ => (h k hk).2 (fun h9 => by omega)⟩
  · refine ⟨fun h9 => (h k hk).1 ⟨by omega, h9.2⟩, fun h9 => (h k hk).2 (fun h8 => h9 ⟨by omega, h8.2⟩)⟩
theorem cMrk.yes {a b i w r x y : Int32} {br lo br2 lo2 br3 lo3 : Nat → Int32} {m : Nat} (h : cMrk a b i w br lo br2 lo2 m) (hr : r.toInt.toNat = m) (h0 : 0 ≤ r.toInt) (hm : m < 4096) (h1 : (r &&& a) = 0) (h2 : (r &&& b) = b) (e1 : br3 = upd br2 r.toNatClampNeg x) (hx : x = br2 r.toNatClampNeg ^^^ ((1 : Int32) <<< (i &&& 31))) (e2 : lo3 = upd lo2 r.toNatClampNeg y) (hy : y = iI ((lo2 r.toNatClampNeg).toInt + w.toInt)) : cMrk a b i w br lo br3 lo3 (m + 1) := by
  have hc : r.toNatClampNeg = m := hr
  have hm2 := (h m hm).2 (fun h9 => by omega)
  rw [hc] at e1 hx e2 hy
  subst e1 e2
  intro k hk
  by_cases e : k = m
  · have e4 : nI k = r := by rw [e, ← hr]; exact nI_tz h0
    rw [e4]
    refine ⟨fun _ => ?_, fun h9 => absurd ⟨by omega, h1, h2⟩ h9⟩
    unfold upd
    rw [if_pos e, if_pos e, hx, hy, hm2.1, hm2.2, e]
    exact ⟨rfl, rfl⟩
  · unfold upd
    rw [if_neg e, if_neg e]
    refine ⟨fun h9 => (h k hk).1 ⟨by omega, h9.2⟩, fun h9 => (h k hk).2 (fun h8 => h9 ⟨by omega, h8.2⟩)⟩
theorem kN_upd {d : ClD} {y m w : Int32} {i k : Nat} (hi : i ≠ d.1.toNat) : kN (clAdd d y m w) i k = kN d i k := by
  unfold kN
  show decide ((upd d.2.1 d.1.toNat y i &&& nI k) = 0 ∧ (upd d.2.2.1 d.1.toNat m i &&& (nI k ^^^ (-1))) = 0) = _
  unfold upd
  rw [if_neg hi, if_neg hi]
theorem cSum_upd {d : ClD} {y m w : Int32} {k : Nat} : ∀ j, j ≤ d.1.toNat → cSum (clAdd d y m w) k j = cSum d k j := by
  intro j
  induction j with
  | zero => intro _; rfl
  | succ j ih =>
    intro hj
    show cSum (clAdd d y m w) k j + (if kN (clAdd d y m w) j k = true then (upd d.2.2.2 d.1.toNat w j).toInt else 0) = cSum d k j + (if kN d j k = true then (d.2.2.2 j).toInt else 0)
    rw [ih (by omega), kN_upd (by omega)]
    unfold upd
    rw [if_neg (show ¬ j = d.1.toNat by omega)]
theorem kN_new {d : ClD} {y m w : Int32} {k : Nat} : kN (clAdd d y m w) d.1.toNat k = true ↔ ((nI k &&& y) = 0 ∧ (nI k &&& m) = m) := by
  rw [kN_cls]
  show ((nI k &&& upd d.2.1 d.1.toNat y d.1.toNat) = 0 ∧ (nI k &&& upd d.2.2.1 d.1.toNat m d.1.toNat) = upd d.2.2.1 d.1.toNat m d.1.toNat) ↔ _
  unfold upd
  rw [if_pos rfl, if_pos rfl]
theorem bI_bit {i : Int32} {j : Nat} (h0 : 0 ≤ i.toInt) (h1 : i.toInt < 25) : bI ((1 : Int32) <<< (i &&& 31)) j = decide (j = i.toInt.toNat) := by
  have h := bI_1 (i := i.toInt.toNat) (j := j) (by omega)
  rw [nI_tz h0] at h
  exact h
theorem ClI.add {d : ClD} {br lo br2 lo2 : Nat → Int32} {mu mu2 y m w i : Int32} (hv : cVal d) (hn : d.1 < 24) (h : ClI d br lo mu) (hm : cMrk y m i w br lo br2 lo2 4096) (hi : i.toInt = d.1) (hw : 0 ≤ w.toInt ∧ w.toInt ≤ 1000) (hmu : (w.toInt = 0 ∧ mu2 = mu ||| ((1 : Int32) <<< (i &&& 31))) ∨ (w.toInt ≠ 0 ∧ mu2 = mu)) : ClI (clAdd d y m w) br2 lo2 mu2 := by
  have h0 := hv.1
  have hbit : ∀ j, bI ((1 : Int32) <<< (i &&& 31)) j = decide (j = d.1.toNat) := fun j => by rw [bI_bit (by omega) (by omega), hi]
  have hd1 : (clAdd d y m w).1 = d.1 + 1 := rfl
  have e1 : (d.1 + 1).toNat = d.1.toNat + 1 := by omega
  have low : ∀ k, k < 4096 → bI (br k) d.1.toNat = false := by
    intro k hk
    cases h9 : bI (br k) d.1.toNat
    · rfl
    · have := ((h.1 k hk _).mp h9).1; omega
  refine ⟨fun k hk j => ?_, fun k hk => ?_, fun j => ?_⟩
  · rw [hd1]
    by_cases e : j = d.1.toNat
    · rw [e]
      by_cases hnk : (nI k &&& y) = 0 ∧ (nI k &&& m) = m
      · rw [((hm k hk).1 ⟨hk, hnk⟩).1, bI_xor, hbit, low k hk, decide_eq_true rfl]
        exact ⟨fun _ => ⟨by omega, kN_new.mpr hnk⟩, fun _ => rfl⟩
      · rw [((hm k hk).2 (fun h9 => hnk h9.2)).1, low k hk]
        exact ⟨fun h9 => (by cases h9), fun h9 => absurd (kN_new.mp h9.2) hnk⟩
    · have e9 : bI (br2 k) j = bI (br k) j := by
        by_cases hnk : (nI k &&& y) = 0 ∧ (nI k &&& m) = m
        · rw [((hm k hk).1 ⟨hk, hnk⟩).1, bI_xor, hbit, decide_eq_false e, Bool.xor_false]
        · rw [((hm k hk).2 (fun h9 => hnk h9.2)).1]
      rw [e9, kN_upd e, h.1 k hk j]
      constructor
      · intro h9; exact ⟨by omega, h9.2⟩
      · intro h9; exact ⟨by omega, h9.2⟩
  · rw [hd1, e1]
    have hs := cSum_upd (d := d) (y := y) (m := m) (w := w) (k := k) d.1.toNat (Nat.le_refl _)
    have hl := h.2.1 k hk
    have hb := cSum.bd hv k d.1.toNat (by omega)
    have hwn : ((clAdd d y m w).2.2.2 d.1.toNat).toInt = w.toInt := by
      show (upd d.2.2.2 d.1.toNat w d.1.toNat).toInt = w.toInt
      unfold upd
      rw [if_pos rfl]
    by_cases hnk : (nI k &&& y) = 0 ∧ (nI k &&& m) = m
    · rw [cSum_yes (kN_new.mpr hnk), hs, hwn, ((hm k hk).1 ⟨hk, hnk⟩).2, iI_t (by omega) (by omega), hl]
    · have hf : kN (clAdd d y m w) d.1.toNat k = false := by
        cases h9 : kN (clAdd d y m w) d.1.toNat k
        · rfl
        · exact absurd (kN_new.mp h9) hnk
      rw [cSum_no hf, hs, ((hm k hk).2 (fun h9 => hnk h9.2)).2, hl]
  · rw [hd1]
    show bI mu2 j = true ↔ ((j : Int) < d.1 + 1 ∧ (upd d.2.2.2 d.1.toNat w j).toInt = 0)
    unfold upd
    by_cases e : j = d.1.toNat
    · rw [if_pos e, e]
      have hlow : bI mu d.1.toNat = false := by
        cases h9 : bI mu d.1.toNat
        · rfl
        · have := ((h.2.2 _).mp h9).1; omega
      rcases hmu with ⟨h1, h2⟩ | ⟨h1, h2⟩
      · rw [h2, bI_or, hbit, decide_eq_true rfl, Bool.or_true]
        exact ⟨fun _ => ⟨by omega, h1⟩, fun _ => rfl⟩
      · rw [h2, hlow]
        exact ⟨fun h9 => (by cases h9), fun h9 => absurd h9.2 h1⟩
    · rw [if_neg e]
      have e9 : bI mu2 j = bI mu j := by
        rcases hmu with ⟨h1, h2⟩ | ⟨h1, h2⟩
        · rw [h2, bI_or, hbit, decide_eq_false e, Bool.or_false]
        · rw [h2]
      rw [e9, h.2.2 j]
      constructor
      · intro h9; exact ⟨by omega, h9.2⟩
      · intro h9; exact ⟨by omega, h9.2⟩
theorem kN_same {d : ClD} {n : Int} {i k : Nat} : kN (n, d.2) i k = kN d i k := rfl
theorem cSum_same {d : ClD} {n : Int} {k : Nat} : ∀ j, cSum (n, d.2) k j = cSum d k j := by
  intro j
  induction j with
  | zero => rfl
  | succ j ih =>
    show cSum (n, d.2) k j + (if kN d j k = true then (d.2.2.2 j).toInt else 0) = cSum d k j + (if kN d j k = true then (d.2.2.2 j).toInt else 0)
    rw [ih]
theorem ClI.drop {d : ClD} {br lo br2 lo2 : Nat → Int32} {mu mu2 w i : Int32} (hv : cVal d) (hn : 0 < d.1) (h : ClI d br lo mu) (hm : cMrk (d.2.1 (d.1 - 1).toNat) (d.2.2.1 (d.1 - 1).toNat) i w br lo br2 lo2 4096) (hi : i.toInt = d.1 - 1) (hw : w.toInt = - (d.2.2.2 (d.1 - 1).toNat).toInt) (hmu : mu2 = mu &&& (((1 : Int32) <<< (i &&& 31)) ^^^ (-1))) : ClI (d.1 - 1, d.2) br2 lo2 mu2 := by
  have h24 := hv.2.1
  have hbit : ∀ j, bI ((1 : Int32) <<< (i &&& 31)) j = decide (j = (d.1 - 1).toNat) := fun j => by rw [bI_bit (by omega) (by omega), hi]
  have e1 : d.1.toNat = (d.1 - 1).toNat + 1 := by omega
  have hwb := hv.2.2 (d.1 - 1).toNat (by omega)
  refine ⟨fun k hk j => ?_, fun k hk => ?_, fun j => ?_⟩
  · show bI (br2 k) j = true ↔ ((j : Int) < d.1 - 1 ∧ kN d j k = true)
    have hj := h.1 k hk j
    by_cases hnk : (nI k &&& d.2.1 (d.1 - 1).toNat) = 0 ∧ (nI k &&& d.2.2.1 (d.1 - 1).toNat) = d.2.2.1 (d.1 - 1).toNat
    · rw [((hm k hk).1 ⟨hk, hnk⟩).1, bI_xor, hbit]
      by_cases e : j = (d.1 - 1).toNat
      · have hT : bI (br k) j = true := hj.mpr ⟨by omega, by rw [e]; exact (kN_cls _ _ _).mpr hnk⟩
        rw [hT, decide_eq_true e]
        exact ⟨fun h9 => (by cases h9), fun h9 => by omega⟩
      · rw [decide_eq_false e, Bool.xor_false, hj]
        exact ⟨fun h9 => ⟨by omega, h9.2⟩, fun h9 => ⟨by omega, h9.2⟩⟩
    · rw [((hm k hk).2 (fun h9 => hnk h9.2)).1, hj]
      constructor
      · intro h9
        refine ⟨?_, h9.2⟩
        by_cases e : j = (d.1 - 1).toNat
        · exact absurd ((kN_cls _ _ _).mp (by rw [← e]; exact h9.2)) hnk
        · omega
      · intro h9; exact ⟨by omega, h9.2⟩
  · show (lo2 k).toInt = cSum (d.1 - 1, d.2) k (d.1 - 1).toNat
    rw [cSum_same]
    have hl := h.2.1 k hk
    have hb := cSum.bd hv k (d.1 - 1).toNat (by omega)
    rw [e1] at hl
    by_cases hnk : (nI k &&& d.2.1 (d.1 - 1).toNat) = 0 ∧ (nI k &&& d.2.2.1 (d.1 - 1).toNat) = d.2.2.1 (d.1 - 1).toNat
    · rw [cSum_yes ((kN_cls _ _ _).mpr hnk)] at hl
      rw [((hm k hk).1 ⟨hk, hnk⟩).2, iI_t (by omega) (by omega)]
      omega
    · have hf : kN d (d.1 - 1).toNat k = false := by
        cases h9 : kN d (d.1 - 1).toNat k
        · rfl
        · exact absurd ((kN_cls _ _ _).mp h9) hnk
      rw [cSum_no hf] at hl
      rw [((hm k hk).2 (fun h9 => hnk h9.2)).2]
      exact hl
  · show bI mu2 j = true ↔ ((j : Int) < d.1 - 1 ∧ (d.2.2.2 j).toInt = 0)
    rw [hmu, bI_and, bI_xor, hbit]
    by_cases hj : j < 32
    · rw [bI_m1 hj, Bool.and_eq_true, h.2.2 j]
      by_cases e : j = (d.1 - 1).toNat
      · rw [decide_eq_true e]
        exact ⟨fun h9 => (by cases h9.2), fun h9 => by omega⟩
      · rw [decide_eq_false e]
        exact ⟨fun h9 => ⟨by omega, h9.1.2⟩, fun h9 => ⟨⟨by omega, h9.2⟩, rfl⟩⟩
    · rw [bI_big (x := mu) (by omega)]
      exact ⟨fun h9 => (by cases h9), fun h9 => by omega⟩
theorem ClI.must {d : ClD} {br lo : Nat → Int32} {mu : Int32} (hv : cVal d) (h : ClI d br lo mu) {k : Nat} (hk : k < 4096) : (br k &&& mu) = 0 ↔ cMust d k d.1.toNat := by
  have h0 := hv.1
  rw [bI_zero]
  constructor
  · intro h9 i hi hn hw
    have e := h9 i
    rw [bI_and, (h.1 k hk i).mpr ⟨by omega, hn⟩, (h.2.2 i).mpr ⟨by omega, hw⟩] at e
    cases e
  · intro h9 j
    rw [bI_and]
    cases e1 : bI (br k) j
    · rfl
    · cases e2 : bI mu j
      · rfl
      · have a1 := (h.1 k hk j).mp e1
        have a2 := (h.2.2 j).mp e2
        exact absurd a2.2 (h9 j (by omega) a1.2)
theorem ClI.can {d : ClD} {br lo : Nat → Int32} {mu x : Int32} (hv : cVal d) (h : ClI d br lo mu) {k : Nat} (hk : k < 4096) : (br k &&& x) = 0 ↔ cSat d x k d.1.toNat = true := by
  have h0 := hv.1
  rw [bI_zero, cSat_iff]
  constructor
  · intro h9 i hi hx
    cases e : kN d i k
    · rfl
    · have e2 := h9 i
      rw [bI_and, (h.1 k hk i).mpr ⟨by omega, e⟩, hx] at e2
      cases e2
  · intro h9 j
    rw [bI_and]
    cases e1 : bI (br k) j
    · rfl
    · cases e2 : bI x j
      · rfl
      · have a1 := (h.1 k hk j).mp e1
        have a2 := h9 j (by omega) e2
        rw [a1.2] at a2; cases a2
theorem ClI.none {d : ClD} {br lo : Nat → Int32} {mu : Int32} (hv : cVal d) (h : ClI d br lo mu) {k : Nat} (hk : k < 4096) : br k = 0 ↔ cSat d (cFull d.1.toNat) k d.1.toNat = true := by
  have h0 := hv.1
  have h24 := hv.2.1
  rw [bI_zero, cSat_iff]
  constructor
  · intro h9 i hi _
    cases e : kN d i k
    · rfl
    · have e2 := h9 i
      rw [(h.1 k hk i).mpr ⟨by omega, e⟩] at e2
      cases e2
  · intro h9 j
    cases e1 : bI (br k) j
    · rfl
    · have a1 := (h.1 k hk j).mp e1
      have a2 := h9 j (by omega) (cFull_bit (by omega) (by omega))
      rw [a1.2] at a2; cases a2
theorem ClI.lno {d : ClD} {br lo : Nat → Int32} {mu a : Int32} {m : Nat} {c : Int} (hv : cVal d) (h : ClI d br lo mu) (hB : ∃ b, cBest d m b c) (hm : m < 4096) (ha : a = br m &&& mu) (h0 : a.toInt ≠ 0) : ∃ b, cBest d (m + 1) b c :=
  hB.elim (fun b hb => ⟨b, cBest.no hb (fun h9 => h0 (by rw [ha, (ClI.must hv h hm).mpr h9]; decide))⟩)
theorem ClI.lm {d : ClD} {br lo : Nat → Int32} {mu a : Int32} {m : Nat} (hv : cVal d) (h : ClI d br lo mu) (hm : m < 4096) (ha : a = br m &&& mu) (h0 : a.toInt = 0) : cMust d m d.1.toNat :=
  (ClI.must hv h hm).mp (by rw [← ha]; exact Int32.toInt_inj.mp (by rw [h0]; decide))
theorem ClI.lnew {d : ClD} {br lo : Nat → Int32} {mu a : Int32} {m : Nat} {c c2 : Int} (hv : cVal d) (h : ClI d br lo mu) (hB : ∃ b, cBest d m b c) (hm : m < 4096) (ha : a = br m &&& mu) (h0 : a.toInt = 0) (hc : c = -1) (hc2 : c2 = (m : Int)) : ∃ b, cBest d (m + 1) b c2 :=
  hB.elim (fun b hb => ⟨cSum d m d.1.toNat, cBest.take hb (ClI.lm hv h hm ha h0) rfl hc2 (Or.inl hc)⟩)
theorem ClI.lat {d : ClD} {br lo : Nat → Int32} {mu : Int32} {m : Nat} {b c : Int} (h : ClI d br lo mu) (hB : cBest d m b c) (hc : c ≠ -1) (hm : m ≤ 4096) : (lo c.toNat).toInt = b ∧ 0 ≤ c ∧ c < (m : Int) := by
  rcases hB with ⟨h1, _⟩ | ⟨h1, h2, _, h4, _⟩
  · exact absurd h1 hc
  · exact ⟨by rw [h4]; exact h.2.1 c.toNat (by omega), h1, h2⟩
theorem ClI.lless {d : ClD} {br lo : Nat → Int32} {mu a x y : Int32} {m : Nat} {c c2 : Int} (hv : cVal d) (h : ClI d br lo mu) (hB : ∃ b, cBest d m b c) (hm : m < 4096) (ha : a = br m &&& mu) (h0 : a.toInt = 0) (hc : c ≠ -1) (hx : x = lo m) (hy : y = lo c.toNat) (hl : x.toInt < y.toInt) (hc2 : c2 = (m : Int)) : ∃ b, cBest d (m + 1) b c2 :=
  hB.elim (fun b hb => ⟨cSum d m d.1.toNat, cBest.take hb (ClI.lm hv h hm ha h0) rfl hc2 (Or.inr (by rw [← h.2.1 m hm, ← (ClI.lat h hb hc (by omega)).1, ← hx, ← hy]; exact hl))⟩)
theorem ClI.lkeep {d : ClD} {br lo : Nat → Int32} {mu x y : Int32} {m : Nat} {c : Int} (h : ClI d br lo mu) (hB : ∃ b, cBest d m b c) (hm : m < 4096) (hc : c ≠ -1) (hx : x = lo m) (hy : y = lo c.toNat) (hl : ¬ x.toInt < y.toInt) : ∃ b, cBest d (m + 1) b c :=
  hB.elim (fun b hb => ⟨b, cBest.keep hb hc (by rw [← h.2.1 m hm, ← (ClI.lat h hb hc (by omega)).1, ← hx, ← hy]; exact hl)⟩)
theorem cBest.nob {d : ClD} {m : Nat} {c : Int} (hB : ∃ b, cBest d m b c) (hc : c = -1) : ∃ c2, cBest d m (-1) c2 := by
  obtain ⟨b, hb⟩ := hB
  have e : b = -1 := by
    rcases hb with ⟨_, h2, _⟩ | ⟨h1, _⟩
    · exact h2
    · omega
  rw [e] at hb
  exact ⟨c, hb⟩
theorem ClI.lost {d : ClD} {br lo : Nat → Int32} {mu x : Int32} {c : Int} (h : ClI d br lo mu) (hB : ∃ b, cBest d 4096 b c) (hc : c ≠ -1) (hx : x = lo c.toNat) : ∃ c2, cBest d 4096 x.toInt c2 :=
  hB.elim (fun b hb => ⟨c, by rw [hx, (ClI.lat h hb hc (Nat.le_refl _)).1]; exact hb⟩)
def cCnt (d : ClD) (m : Nat) : Nat := cntB (fun k => cSat d (cFull d.1.toNat) k d.1.toNat) m
theorem cCnt_le (d : ClD) (m : Nat) : cCnt d m ≤ m := cntB_le _ m
theorem ClI.cnt1 {d : ClD} {br lo : Nat → Int32} {mu x : Int32} {m : Nat} (hv : cVal d) (h : ClI d br lo mu) (hm : m < 4096) (hx : x = br m) (h0 : x.toInt = 0) : cCnt d (m + 1) = cCnt d m + 1 := by
  have e : cSat d (cFull d.1.toNat) m d.1.toNat = true := (ClI.none hv h hm).mp (by rw [← hx]; exact Int32.toInt_inj.mp (by rw [h0]; decide))
  show cntB (fun k => cSat d (cFull d.1.toNat) k d.1.toNat) m + (if cSat d (cFull d.1.toNat) m d.1.toNat = true then 1 else 0) = cCnt d m + 1
  rw [if_pos e]
  rfl
theorem ClI.cnt0 {d : ClD} {br lo : Nat → Int32} {mu x : Int32} {m : Nat} (hv : cVal d) (h : ClI d br lo mu) (hm : m < 4096) (hx : x = br m) (h0 : x.toInt ≠ 0) : cCnt d (m + 1) = cCnt d m := by
  have e : ¬ cSat d (cFull d.1.toNat) m d.1.toNat = true := fun h9 => h0 (by rw [hx, (ClI.none hv h hm).mpr h9]; decide)
  show cntB (fun k => cSat d (cFull d.1.toNat) k d.1.toNat) m + (if cSat d (cFull d.1.toNat) m d.1.toNat = true then 1 else 0) = cCnt d m
  rw [if_neg e]
  rfl
theorem ClI.nkeep {d : ClD} {br lo : Nat → Int32} {mu a x : Int32} {m : Nat} (hv : cVal d) (h : ClI d br lo mu) (hN : ∀ k, k < m → ¬ cSat d x k d.1.toNat = true) (hm : m < 4096) (ha : a = br m &&& x) (h0 : a.toInt ≠ 0) : ∀ k, k < m + 1 → ¬ cSat d x k d.1.toNat = true := by
  intro k hk h9
  by_cases e : k = m
  · rw [e] at h9
    exact h0 (by rw [ha, (ClI.can hv h hm).mpr h9]; decide)
  · exact hN k (by omega) h9
theorem ClI.ykeep {d : ClD} {br lo : Nat → Int32} {mu a x : Int32} {m : Nat} (hv : cVal d) (h : ClI d br lo mu) (hm : m < 4096) (ha : a = br m &&& x) (h0 : a.toInt = 0) : cCan d x :=
  ⟨m, hm, (ClI.can hv h hm).mp (by rw [← ha]; exact Int32.toInt_inj.mp (by rw [h0]; decide))⟩
theorem cCan.no {d : ClD} {x : Int32} {m : Nat} (hN : ∀ k, k < m → ¬ cSat d x k d.1.toNat = true) (hm : m = 4096) : ¬ cCan d x := fun ⟨k, hk, h⟩ => hN k (by omega) h
theorem cLess_of {x a l : Int32} (h0 : 0 ≤ l.toInt) (ha : a = x &&& (((1 : Int32) <<< (l &&& 31)) ^^^ (-1))) : a = cLess x l.toInt.toNat := by
  unfold cLess
  rw [nI_tz h0]
  exact ha
theorem cFull_of {y n : Int32} (h0 : 0 ≤ n.toInt) (hy : y = ((1 : Int32) <<< (n &&& 31)) - 1) : y = cFull n.toInt.toNat := by
  unfold cFull
  rw [nI_tz h0]
  exact hy
theorem cCore.y {d : ClD} {c n k : Nat} {x F : Int32} (hI : ∀ r, cCore d c x r → cCore d n F r) (hc : c = k + 1) (hy : cCan d (cLess x k)) : ∀ r, cCore d k x r → cCore d n F r := by
  subst hc
  exact fun r hr => hI r (Or.inl ⟨hy, hr⟩)
theorem cCore.n {d : ClD} {c n k : Nat} {x a F : Int32} (hI : ∀ r, cCore d c x r → cCore d n F r) (hc : c = k + 1) (ha : a = cLess x k) (hy : ¬ cCan d a) : ∀ r, cCore d k a r → cCore d n F r := by
  subst hc ha
  exact fun r hr => hI r (Or.inr ⟨hy, hr⟩)
theorem cCore.e {d : ClD} {c n : Nat} {x F : Int32} (hI : ∀ r, cCore d c x r → cCore d n F r) (hc : c = 0) : cCore d n F x := by
  subst hc
  exact hI x rfl
theorem cVal.z0 : cVal ((0 : Int32).toInt, (fun _ => 0), (fun _ => 0), (fun _ => 0)) := by
  have h := cVal.z
  rw [clZ_x (x := (0 : Int32).toInt) (by decide)] at h
  exact h
theorem ClI.z0 : ClI ((0 : Int32).toInt, (fun _ => 0), (fun _ => 0), (fun _ => 0)) (fun _ => 0) (fun _ => 0) 0 := by
  have h := ClI.z
  rw [clZ_x (x := (0 : Int32).toInt) (by decide)] at h
  exact h

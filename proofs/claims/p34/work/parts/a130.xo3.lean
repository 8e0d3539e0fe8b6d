/-! the class's tours: stops, prices, the table of rests -/
def tuStI (b : Nat → Bool) (k s : Int) (f : Nat → Int32) : Prop := s = (cntB b k.toNat : Int) ∧ ∀ j : Nat, (j : Int) < s → (f j).toInt = (tuK b j : Int)
theorem tuStI.start {b : Nat → Bool} {k s : Int} {f : Nat → Int32} (hk : k = 0) (hs : s = 0) : tuStI b k s f := by
  subst hk hs
  exact ⟨rfl, fun j hj => by omega⟩
theorem tuStI.skip {b : Nat → Bool} {k k2 s : Int} {f : Nat → Int32} (h : tuStI b k s f) (h0 : 0 ≤ k) (hk : k2 = k + 1) (hb : b k.toNat = false) : tuStI b k2 s f := by
  subst hk
  refine ⟨?_, h.2⟩
  rw [show (k + 1).toNat = k.toNat + 1 by omega, cntB_s0 hb]
  exact h.1
theorem tuStI.take {b : Nat → Bool} {k k2 s s2 : Int} {f g : Nat → Int32} {v : Int32} (h : tuStI b k s f) (h0 : 0 ≤ k) (hk12 : k < 12) (hk : k2 = k + 1) (hs : s2 = s + 1) (hb : b k.toNat = true) (hg : g = upd f s.toNat v) (hv : v.toInt = k) : tuStI b k2 s2 g := by
  subst hk hs hg
  have h1 := h.1
  refine ⟨?_, fun j hj => ?_⟩
  · rw [show (k + 1).toNat = k.toNat + 1 by omega, cntB_s hb]
    omega
  · show (if j = s.toNat then v else f j).toInt = _
    by_cases e : j = s.toNat
    · rw [if_pos e, hv, e, show s.toNat = cntB b k.toNat by omega, tuK_at (by omega) hb]
      omega
    · rw [if_neg e]
      exact h.2 j (by omega)
theorem tuStI.done {b : Nat → Bool} {k s : Int} {f : Nat → Int32} (h : tuStI b k s f) (h8 : cntB b 12 ≤ 8) (hk0 : 0 ≤ k) (hk : k ≤ 12) (he : 12 ≤ k ∨ 8 ≤ s) : s = (cntB b 12 : Int) ∧ ∀ j : Nat, j < cntB b 12 → (f j).toInt = (tuK b j : Int) := by
  have h1 := h.1
  have h2 := cntB_up (f := b) (i := k.toNat) (j := 12) (by omega)
  have e : s = (cntB b 12 : Int) := by
    rcases he with he | he
    · rw [show k = 12 by omega] at h1
      exact h1
    · omega
  exact ⟨e, fun j hj => h.2 j (by omega)⟩
def tuPrI (d : NtD) (m : Nat → Nat) (n a b i : Nat) (f : Nat → Int32) : Prop := ∀ x y, x < n → y < n → (f (8 * x + y)).toInt = if x < a ∨ (x = a ∧ y < b) then tuL d (m x) (m y) d.1.toNat else if x = a ∧ y = b then tuL d (m x) (m y) i else 536870912
theorem tuPrI.start {d : NtD} {m : Nat → Nat} {n a b i : Nat} {f : Nat → Int32} (hn : n ≤ 8) (h : ∀ k, k < 64 → (f k).toInt = 536870912) (ha : a = 0) (hb : b = 0) (hi : i = 0) : tuPrI d m n a b i f := by
  subst ha hb hi
  intro x y hx hy
  rw [h (8 * x + y) (by omega), if_neg (by omega)]
  split
  · rfl
  · rfl
theorem tuPrI.skip {d : NtD} {m : Nat → Nat} {n a b i : Nat} {f : Nat → Int32} (h : tuPrI d m n a b i f) (hm : ¬ (tFr d i = m a ∧ tTo d i = m b)) : tuPrI d m n a b (i + 1) f := by
  intro x y hx hy
  rw [h x y hx hy]
  by_cases e1 : x < a ∨ (x = a ∧ y < b)
  · rw [if_pos e1, if_pos e1]
  · rw [if_neg e1, if_neg e1]
    by_cases e2 : x = a ∧ y = b
    · rw [if_pos e2, if_pos e2, e2.1, e2.2, tuL_no hm]
    · rw [if_neg e2, if_neg e2]
theorem tuPrI.put {d : NtD} {m : Nat → Nat} {n a b i k : Nat} {f g : Nat → Int32} {v : Int32} (h : tuPrI d m n a b i f) (ha : a < n) (hb : b < n) (hn : n ≤ 8) (h1 : tFr d i = m a) (h2 : tTo d i = m b) (hk : k = 8 * a + b) (hg : g = upd f k v) (hv : v.toInt = if tCo d i < (f k).toInt then tCo d i else (f k).toInt) : tuPrI d m n a b (i + 1) g := by
  subst hk hg
  intro x y hx hy
  have h0 := h a b ha hb
  rw [if_neg (by omega), if_pos ⟨rfl, rfl⟩] at h0
  show (if 8 * x + y = 8 * a + b then v else f (8 * x + y)).toInt = _
  by_cases e2 : x = a ∧ y = b
  · obtain ⟨rfl, rfl⟩ := e2
    rw [if_pos rfl, if_neg (show ¬ (x < x ∨ (x = x ∧ y < y)) by omega), if_pos ⟨rfl, rfl⟩, tuL_yes h1 h2, hv, h0]
  · rw [if_neg (by omega), h x y hx hy]
    by_cases e1 : x < a ∨ (x = a ∧ y < b)
    · rw [if_pos e1, if_pos e1]
    · rw [if_neg e1, if_neg e1, if_neg e2, if_neg e2]
theorem tuPrI.nextb {d : NtD} {m : Nat → Nat} {n a b i j : Nat} {f : Nat → Int32} (h : tuPrI d m n a b i f) (hi : i = d.1.toNat) (hj : j = 0) : tuPrI d m n a (b + 1) j f := by
  subst hj
  intro x y hx hy
  rw [h x y hx hy]
  by_cases e1 : x < a ∨ (x = a ∧ y < b)
  · rw [if_pos e1, if_pos (by omega)]
  · rw [if_neg e1]
    by_cases e2 : x = a ∧ y = b
    · rw [if_pos e2, if_pos (by omega), hi]
    · rw [if_neg e2, if_neg (by omega)]
      split
      · rfl
      · rfl
theorem tuPrI.nexta {d : NtD} {m : Nat → Nat} {n a b i c j : Nat} {f : Nat → Int32} (h : tuPrI d m n a b i f) (hb : n ≤ b) (hc : c = 0) (hj : j = 0) : tuPrI d m n (a + 1) c j f := by
  subst hc hj
  intro x y hx hy
  rw [h x y hx hy]
  by_cases e1 : x < a ∨ (x = a ∧ y < b)
  · rw [if_pos e1, if_pos (by omega)]
  · rw [if_neg e1, if_neg (by omega), if_neg (by omega)]
    split
    · rfl
    · rfl
theorem tuPrI.done {d : NtD} {m : Nat → Nat} {n a b i : Nat} {f : Nat → Int32} (h : tuPrI d m n a b i f) (ha : n ≤ a) : ∀ x y, x < n → y < n → (f (8 * x + y)).toInt = tuL d (m x) (m y) d.1.toNat := fun x y hx hy => by
  rw [h x y hx hy, if_pos (by omega)]
/-! rows as tables -/
def tuTab (f : Nat → Int32) (x a : Nat) : Int := (f (8 * x + a)).toInt
def tuV1 (P : Nat → Nat → Int) (n : Nat) (F : Nat → Nat → Int) (x a : Nat) (r : Int) : Prop := (x = 0 → r = P a 0) ∧ (x ≠ 0 → r ≤ 536870912 ∧ (∀ b, 1 ≤ b → b < n → x.testBit (b - 1) = true → r ≤ tuG P F x a b) ∧ (r = 536870912 ∨ ∃ b, 1 ≤ b ∧ b < n ∧ x.testBit (b - 1) = true ∧ r = tuG P F x a b))
def tuRs (P : Nat → Nat → Int) (F : Nat → Nat → Int) (x a c : Nat) (r : Int) : Prop := (0 ≤ r ∧ r ≤ 536870912) ∧ (∀ b, 1 ≤ b → b < c → x.testBit (b - 1) = true → r ≤ tuG P F x a b) ∧ (r = 536870912 ∨ ∃ b, 1 ≤ b ∧ b < c ∧ x.testBit (b - 1) = true ∧ r = tuG P F x a b)
theorem tuRs.start {P : Nat → Nat → Int} {F : Nat → Nat → Int} {x a c : Nat} {r : Int} (hc : c = 1) (hr : r = 536870912) : tuRs P F x a c r := by
  subst hc
  exact ⟨by omega, fun b h1 h2 => by omega, Or.inl hr⟩
theorem tuRs.skip {P : Nat → Nat → Int} {F : Nat → Nat → Int} {x a c : Nat} {r : Int} (h : tuRs P F x a c r) (hb : x.testBit (c - 1) = false) : tuRs P F x a (c + 1) r := by
  obtain ⟨h1, h2, h3⟩ := h
  refine ⟨h1, fun b hb1 hb2 hb3 => ?_, ?_⟩
  · rcases Nat.lt_or_ge b c with h4 | h4
    · exact h2 b hb1 h4 hb3
    · rw [show b = c by omega, hb] at hb3
      cases hb3
  · rcases h3 with h3 | ⟨b, g1, g2, g3, g4⟩
    · exact Or.inl h3
    · exact Or.inr ⟨b, g1, by omega, g3, g4⟩
theorem tuRs.take {P : Nat → Nat → Int} {F : Nat → Nat → Int} {x a c : Nat} {r v g : Int} (h : tuRs P F x a c r) (hc : 1 ≤ c) (hb : x.testBit (c - 1) = true) (hv : v = tuG P F x a c) (hv0 : 0 ≤ v) (hg : (g ≤ r ∧ g ≤ v) ∧ (g = r ∨ g = v)) : tuRs P F x a (c + 1) g := by
  obtain ⟨h1, h2, h3⟩ := h
  refine ⟨by omega, fun b hb1 hb2 hb3 => ?_, ?_⟩
  · rcases Nat.lt_or_ge b c with h4 | h4
    · have h5 := h2 b hb1 h4 hb3
      omega
    · rw [show b = c by omega, ← hv]
      omega
  · rcases hg.2 with e | e
    · rcases h3 with h3 | ⟨b, g1, g2, g3, g4⟩
      · exact Or.inl (by omega)
      · exact Or.inr ⟨b, g1, by omega, g3, by omega⟩
    · exact Or.inr ⟨c, hc, by omega, hb, by omega⟩
theorem tuRs.done {P : Nat → Nat → Int} {F : Nat → Nat → Int} {n x a c : Nat} {r : Int} (h : tuRs P F x a c r) (hx : x ≠ 0) (hc : n ≤ c) (hc2 : c ≤ n) : tuV1 P n F x a r := by
  have e : c = n := by omega
  subst e
  exact ⟨fun h9 => absurd h9 hx, fun _ => ⟨h.1.2, h.2.1, h.2.2⟩⟩
/-- what stands in the table ahead of (x, a) -/
def tuTb (P : Nat → Nat → Int) (n : Nat) (f : Nat → Int32) (x a : Nat) : Prop := ∀ y b, b < n → (y < x ∨ (y = x ∧ b < a)) → tuV1 P n (tuTab f) y b (tuTab f y b) ∧ 0 ≤ tuTab f y b ∧ tuTab f y b ≤ 536870912
theorem tuTb.start {P : Nat → Nat → Int} {n x a : Nat} {f : Nat → Int32} (hx : x = 0) (ha : a = 0) : tuTb P n f x a := fun y b _ h => by omega
theorem tuG_cg {P : Nat → Nat → Int} {F G : Nat → Nat → Int} {x a b : Nat} (h : F (x - 2 ^ (b - 1)) b = G (x - 2 ^ (b - 1)) b) : tuG P F x a b = tuG P G x a b := by
  unfold tuG
  rw [h]
theorem tuOff_lt {x b : Nat} (hx : x ≠ 0) : x - 2 ^ b < x := by
  exact Nat.sub_lt (Nat.pos_of_ne_zero hx) (Nat.two_pow_pos b)
theorem tuV1.cg {P : Nat → Nat → Int} {n : Nat} {F G : Nat → Nat → Int} {x a : Nat} {r : Int} (h : tuV1 P n F x a r) (hg : ∀ y b, y < x → b < n → F y b = G y b) : tuV1 P n G x a r := by
  refine ⟨h.1, fun hx => ?_⟩
  obtain ⟨h1, h2, h3⟩ := h.2 hx
  refine ⟨h1, fun b hb1 hb2 hb3 => ?_, ?_⟩
  · rw [← tuG_cg (P := P) (a := a) (hg _ b (tuOff_lt hx) hb2)]
    exact h2 b hb1 hb2 hb3
  · rcases h3 with h3 | ⟨b, g1, g2, g3, g4⟩
    · exact Or.inl h3
    · exact Or.inr ⟨b, g1, g2, g3, by rw [← tuG_cg (P := P) (a := a) (hg _ b (tuOff_lt hx) g2)]; exact g4⟩
theorem tuTb.put {P : Nat → Nat → Int} {n x a k : Nat} {f g : Nat → Int32} {v : Int32} (h : tuTb P n f x a) (hn : n ≤ 8) (ha : a < n) (hk : k = 8 * x + a) (hg : g = upd f k v) (hv : tuV1 P n (tuTab f) x a v.toInt) (hv0 : 0 ≤ v.toInt ∧ v.toInt ≤ 536870912) : tuTb P n g x (a + 1) := by
  subst hk hg
  have eo : ∀ y b, b < n → ¬ (y = x ∧ b = a) → tuTab (upd f (8 * x + a) v) y b = tuTab f y b := fun y b hb hne => by
    show (if 8 * y + b = 8 * x + a then v else f (8 * y + b)).toInt = _
    rw [if_neg (by omega)]
    rfl
  have es : tuTab (upd f (8 * x + a) v) x a = v.toInt := by
    show (if 8 * x + a = 8 * x + a then v else f (8 * x + a)).toInt = _
    rw [if_pos rfl]
  intro y b hb hyb
  by_cases e : y = x ∧ b = a
  · rw [e.1, e.2, es]
    exact ⟨hv.cg (fun y b hy hb => (eo y b hb (by omega)).symm), hv0.1, hv0.2⟩
  · have h1 := h y b hb (by omega)
    rw [eo y b hb e]
    exact ⟨h1.1.cg (fun y2 b2 hy hb2 => (eo y2 b2 hb2 (by omega)).symm), h1.2⟩
theorem tuTb.row {P : Nat → Nat → Int} {n x a : Nat} {f : Nat → Int32} {y b : Nat} (h : tuTb P n f x a) (ha : n ≤ a) (hy : y = x + 1) (hb : b = 0) : tuTb P n f y b := by
  subst hy hb
  intro z c hc hz
  exact h z c hc (by omega)
theorem tuTb.done {P : Nat → Nat → Int} {n x : Nat} {f : Nat → Int32} (h : tuTb P n f x 0) (hx : 2 ^ (n - 1) ≤ x) : tuT P n (tuTab f) := fun y a hy ha => (h y a ha (by omega)).1
/-- the prices as a function, for all stops -/
def tuPx (f : Nat → Int32) (n a b : Nat) : Int := if a < n ∧ b < n then (f (8 * a + b)).toInt else 536870912
theorem tuN_eq {q : Nat → Bool} {f : Nat} : ∀ {a r : Nat}, a ≤ r → r < a + f → q r = true → (∀ c, a ≤ c → c < r → q c = false) → tuN q f a = r := by
  induction f with
  | zero => intro a r h1 h2; omega
  | succ f ih =>
    intro a r h1 h2 h3 h4
    show (if q a = true then a else tuN q f (a + 1)) = r
    by_cases e : a = r
    · rw [e, if_pos h3]
    · rw [if_neg (by rw [h4 a (Nat.le_refl _) (by omega)]; decide)]
      exact ih (by omega) (by omega) h3 (fun c h5 h6 => h4 c (by omega) h6)
theorem tuO_q {P : Nat → Nat → Int} {n : Nat} {F : Nat → Nat → Int} (hP : tuP P) (hF : tuT P n F) (h0 : 1 ≤ n) (hn : n ≤ 8) (hlt : F (2 ^ (n - 1) - 1) 0 < 536870912) {k : Nat} (hk : k + 1 < n) : ∃ b, 1 ≤ b ∧ b < n ∧ tuQ P F (tuF n (tuO P n F) k) (tuO P n F k) b = true := by
  obtain ⟨hw, hc⟩ := tuO_ok hP hF h0 hn hlt k (by omega)
  have hc0 := tuC_0 (P := P) (n := n) (o := tuO P n F) hP k
  have hT := (hF (tuF n (tuO P n F) k) (tuO P n F k) (tuF_lt h0 k) (hw.2.1 k (Nat.le_refl _))).2 (tuF_more hn hk hw)
  obtain ⟨b, hb1, hb2, hb3, hb4⟩ := hT.2.2.resolve_left (fun h9 => by omega)
  refine ⟨b, hb1, hb2, ?_⟩
  unfold tuQ
  rw [hb3, decide_eq_true hb4.symm]
  rfl
/-! numbers and bits -/
theorem tuAnd_all : ((List.range 128).all (fun x => (List.range 7).all (fun j => !(x.testBit j) || decide ((nI x &&& (((1 : Int32) <<< (nI j &&& 31)) ^^^ (-1))) = nI (x - 2 ^ j))))) = true := by decide +kernel
theorem nI_at {p : Int32} {x : Nat} (h : p.toInt = (x : Int)) : p = nI x := by
  have h1 := Int32.toInt_lt p
  exact Int32.toInt_inj.mp (by rw [nI_toInt (by omega)]; exact h)
theorem tuAndT {p v5 v6 q : Int32} {x j : Nat} (h5 : v5 = (1 : Int32) <<< (q &&& 31)) (h6 : v6 = v5 ^^^ (-1)) (hx : p.toInt = (x : Int)) (hx2 : x < 128) (hj : q.toInt = (j : Int)) (hj2 : j < 7) (hb : x.testBit j = true) : (p &&& v6).toInt = ((x - 2 ^ j : Nat) : Int) := by
  have h2 := List.all_eq_true.mp (List.all_eq_true.mp tuAnd_all x (List.mem_range.mpr hx2)) j (List.mem_range.mpr hj2)
  rw [hb] at h2
  have h3 : (nI x &&& (((1 : Int32) <<< (nI j &&& 31)) ^^^ (-1))) = nI (x - 2 ^ j) := of_decide_eq_true (by simpa using h2)
  rw [h6, h5, nI_at hx, nI_at hj, h3, nI_toInt (Nat.lt_of_le_of_lt (Nat.sub_le _ _) (by omega))]
theorem tuShl_all : ((List.range 8).all (fun j => decide (((1 : Int32) <<< (nI j &&& 31)) = nI (2 ^ j)))) = true := by decide +kernel
theorem tuShl {q : Int32} {j : Nat} (hj : q.toInt = (j : Int)) (hj2 : j < 8) : ((1 : Int32) <<< (q &&& 31)).toInt = ((2 ^ j : Nat) : Int) := by
  have h3 : ((1 : Int32) <<< (nI j &&& 31)) = nI (2 ^ j) := of_decide_eq_true (List.all_eq_true.mp tuShl_all j (List.mem_range.mpr hj2))
  have h4 : 2 ^ j ≤ 2 ^ 7 := Nat.pow_le_pow_right (by decide) (by omega)
  rw [nI_at hj, h3, nI_toInt (by omega)]
theorem bt_tb {p : Int32} {j : Nat} (h0 : 0 ≤ p.toInt) (hj : j < 32) : bt p j = p.toInt.toNat.testBit j := by
  have e : p = nI p.toInt.toNat := nI_at (by omega)
  show bI p j = _
  rw [e, bI_nI hj, ← e]
theorem tuV1.cgP {P Q : Nat → Nat → Int} {n : Nat} {F : Nat → Nat → Int} {x a : Nat} {r : Int} (h : tuV1 P n F x a r) (h0 : 1 ≤ n) (hg : ∀ b, b < n → P a b = Q a b) : tuV1 Q n F x a r := by
  have e : ∀ b, b < n → tuG P F x a b = tuG Q F x a b := fun b hb => by
    unfold tuG
    rw [hg b hb]
  refine ⟨fun hx => by rw [← hg 0 (by omega)]; exact h.1 hx, fun hx => ?_⟩
  obtain ⟨h1, h2, h3⟩ := h.2 hx
  refine ⟨h1, fun b hb1 hb2 hb3 => by rw [← e b hb2]; exact h2 b hb1 hb2 hb3, ?_⟩
  rcases h3 with h3 | ⟨b, g1, g2, g3, g4⟩
  · exact Or.inl h3
  · exact Or.inr ⟨b, g1, g2, g3, by rw [← e b g2]; exact g4⟩
theorem tuQ_cgP {P Q : Nat → Nat → Int} {F : Nat → Nat → Int} {x a b : Nat} (hg : P a b = Q a b) : tuQ P F x a b = tuQ Q F x a b := by
  unfold tuQ tuG
  rw [hg]
theorem tuQ_no1 {P : Nat → Nat → Int} {F : Nat → Nat → Int} {x a b : Nat} (h : x.testBit (b - 1) = false) : tuQ P F x a b = false := by
  unfold tuQ
  rw [h, Bool.false_and]
theorem tuQ_no2 {P : Nat → Nat → Int} {F : Nat → Nat → Int} {x a b : Nat} (h : tuG P F x a b ≠ F x a) : tuQ P F x a b = false := by
  unfold tuQ
  rw [decide_eq_false h, Bool.and_false]
theorem tuQ_yes {P : Nat → Nat → Int} {F : Nat → Nat → Int} {x a b : Nat} (h : x.testBit (b - 1) = true) (h2 : tuG P F x a b = F x a) : tuQ P F x a b = true := by
  unfold tuQ
  rw [h, decide_eq_true h2]
  rfl
theorem tuSeen.step {q : Nat → Bool} {c : Int} (h : ∀ k : Nat, 1 ≤ k → (k : Int) < c → q k = false) (hc : 0 ≤ c) (hq : q c.toNat = false) {c2 : Int} (e : c2 = c + 1) : ∀ k : Nat, 1 ≤ k → (k : Int) < c2 → q k = false := fun k h1 h2 => by
  subst e
  by_cases e2 : k = c.toNat
  · rw [e2]
    exact hq
  · exact h k h1 (by omega)
/-- one step of the way that the table tells -/
theorem tuO_step {P Q : Nat → Nat → Int} {n k : Nat} {F : Nat → Nat → Int} {x a r : Nat} (hP : tuP P) (hF : tuT P n F) (h0 : 1 ≤ n) (hn : n ≤ 8) (hlt : F (2 ^ (n - 1) - 1) 0 < 536870912) (hk : k + 1 < n) (hx : x = tuF n (tuO P n F) k) (ha : a = tuO P n F k) (hg : ∀ b, b < n → Q a b = P a b) (hr : (∃ b : Nat, 1 ≤ b ∧ b < n ∧ tuQ Q F x a b = true) → 1 ≤ r ∧ r < n ∧ tuQ Q F x a r = true ∧ ∀ c : Nat, 1 ≤ c → c < r → tuQ Q F x a c = false) : r = tuO P n F (k + 1) ∧ 1 ≤ r ∧ r < n ∧ x.testBit (r - 1) = true ∧ x - 2 ^ (r - 1) = tuF n (tuO P n F) (k + 1) := by
  obtain ⟨b, hb1, hb2, hb3⟩ := tuO_q hP hF h0 hn hlt hk
  rw [← hx, ← ha] at hb3
  obtain ⟨h1, h2, h3, h4⟩ := hr ⟨b, hb1, hb2, by rw [tuQ_cgP (hg b hb2)]; exact hb3⟩
  have e : r = tuO P n F (k + 1) := by
    rw [tuO_next, ← hx, ← ha]
    exact (tuN_eq (q := tuQ P F x a) (f := n - 1) (a := 1) h1 (by omega) (by rw [← tuQ_cgP (hg r h2)]; exact h3) (fun c h5 h6 => by rw [← tuQ_cgP (hg c (by omega))]; exact h4 c h5 h6)).symm
  have h5 : x.testBit (r - 1) = true := by
    unfold tuQ at h3
    rw [Bool.and_eq_true] at h3
    exact h3.1
  refine ⟨e, h1, h2, h5, ?_⟩
  show _ = tuF n (tuO P n F) k - 2 ^ (tuO P n F (k + 1) - 1)
  rw [← e, ← hx]
theorem tuG_0 {P : Nat → Nat → Int} {F : Nat → Nat → Int} {x a b : Nat} (hp : 0 ≤ P a b) (hr : 0 ≤ F (x - 2 ^ (b - 1)) b) : 0 ≤ tuG P F x a b := by
  unfold tuG tuMin
  split <;> omega
theorem tuNz {p : Int32} (h0 : 0 ≤ p.toInt) (h : 2 ≤ cntB (bI p) 12) : 1 ≤ p.toInt := by
  by_cases e : p.toInt = 0
  · have e2 : p = 0 := Int32.toInt_inj.mp (by rw [e]; rfl)
    rw [e2, cntB_congr (g := fun _ => false) (fun i _ => bI_0 i)] at h
    have h2 : cntB (fun _ => false) 12 = 0 := by decide
    omega
  · omega
theorem tuBitNz {x j : Nat} (h : x.testBit j = true) : x ≠ 0 := fun e => by
  rw [e, Nat.zero_testBit] at h
  cases h

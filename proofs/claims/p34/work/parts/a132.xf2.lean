/-! flows: what the class has left between two nodes -/
def mB : Bool → Bool → Int → Int
  | true, false, x => x
  | _, _, _ => 0
theorem mB_add (b c : Bool) (x k : Int) : mB b c (x + k) = mB b c x + mB b c k := by
  cases b
  · cases c
    · rfl
    · rfl
  · cases c
    · rfl
    · rfl
theorem mB_0 (b c : Bool) : mB b c 0 = 0 := by
  cases b
  · cases c
    · rfl
    · rfl
  · cases c
    · rfl
    · rfl
theorem mB_pos (b c : Bool) {x : Int} (h : 0 ≤ x) : 0 ≤ mB b c x := by
  cases b
  · cases c
    · exact Int.le_refl _
    · exact Int.le_refl _
  · cases c
    · exact h
    · exact Int.le_refl _
theorem mB_rs (b c : Bool) (r : Int) : rsB b c r 0 = mB b c r := by
  cases b
  · cases c
    · rfl
    · rfl
  · cases c
    · show r - 0 = r
      omega
    · rfl
theorem mB_two (b c : Bool) (w : Int) : mB b c (-w) + mB c b w = - (sB b w - sB c w) := by
  cases b
  · cases c
    · show (0 : Int) + 0 = - (0 - 0)
      omega
    · show 0 + w = - (0 - w)
      omega
  · cases c
    · show -w + 0 = - (w - 0)
      omega
    · show (0 : Int) + 0 = - (w - w)
      omega
def rsM (F : Nat → Int) (S : Nat → Bool) : Nat → Int
  | 0 => 0
  | q + 1 => rsM F S q + mB (S (q / 12)) (S (q % 12)) (F q)
theorem rsM_same {F G : Nat → Int} {S : Nat → Bool} : ∀ {m : Nat}, (∀ q, q < m → G q = F q) → rsM G S m = rsM F S m := by
  intro m
  induction m with
  | zero => intro _; rfl
  | succ m ih =>
    intro h
    show rsM G S m + mB _ _ (G m) = rsM F S m + mB _ _ (F m)
    rw [ih (fun q hq => h q (by omega)), h m (by omega)]
theorem rsM_put {F G : Nat → Int} {S : Nat → Bool} {q : Nat} {k : Int} : ∀ {m : Nat}, q < m → G q = F q + k → (∀ p, p ≠ q → G p = F p) → rsM G S m = rsM F S m + mB (S (q / 12)) (S (q % 12)) k := by
  intro m
  induction m with
  | zero => intro h; exact absurd h (Nat.not_lt_zero q)
  | succ m ih =>
    intro hq h1 h2
    show rsM G S m + mB (S (m / 12)) (S (m % 12)) (G m) = rsM F S m + mB (S (m / 12)) (S (m % 12)) (F m) + mB (S (q / 12)) (S (q % 12)) k
    by_cases e : q = m
    · subst e
      rw [rsM_same (fun p hp => h2 p (by omega)), h1, mB_add]
      omega
    · rw [ih (by omega) h1 h2, h2 m (Ne.symm e)]
      omega
theorem rsM_0 {F : Nat → Int} {S : Nat → Bool} : ∀ {m : Nat}, (∀ q, q < m → F q = 0) → rsM F S m = 0 := by
  intro m
  induction m with
  | zero => intro _; rfl
  | succ m ih =>
    intro h
    show rsM F S m + mB _ _ (F m) = 0
    rw [ih (fun q hq => h q (by omega)), h m (by omega), mB_0]
    rfl
theorem rsM_pos {F : Nat → Int} {S : Nat → Bool} : ∀ {m : Nat}, (∀ q, q < m → 0 ≤ F q) → 0 ≤ rsM F S m := by
  intro m
  induction m with
  | zero => intro _; exact Int.le_refl _
  | succ m ih =>
    intro h
    show 0 ≤ rsM F S m + mB (S (m / 12)) (S (m % 12)) (F m)
    have h1 := ih (fun q hq => h q (by omega))
    have h2 := mB_pos (S (m / 12)) (S (m % 12)) (h m (by omega))
    omega
theorem rsM_cell {F : Nat → Int} {S : Nat → Bool} {q : Nat} (h1 : S (q / 12) = true) (h2 : S (q % 12) = false) : ∀ {m : Nat}, (∀ p, p < m → 0 ≤ F p) → q < m → F q ≤ rsM F S m := by
  intro m
  induction m with
  | zero => intro _ h; exact absurd h (Nat.not_lt_zero q)
  | succ m ih =>
    intro h hq
    show F q ≤ rsM F S m + mB (S (m / 12)) (S (m % 12)) (F m)
    have h3 := rsM_pos (F := F) (S := S) (m := m) (fun p hp => h p (by omega))
    have h4 := mB_pos (S (m / 12)) (S (m % 12)) (h m (by omega))
    by_cases e : q = m
    · subst e
      rw [h1, h2]
      show F q ≤ rsM F S q + F q
      omega
    · have := ih (fun p hp => h p (by omega)) (by omega)
      omega
theorem rsM_zero {F : Nat → Int} {S : Nat → Bool} : ∀ {m : Nat}, (∀ q, q < m → S (q / 12) = true → S (q % 12) = false → F q = 0) → rsM F S m = 0 := by
  intro m
  induction m with
  | zero => intro _; rfl
  | succ m ih =>
    intro h
    show rsM F S m + mB (S (m / 12)) (S (m % 12)) (F m) = 0
    rw [ih (fun q hq => h q (by omega))]
    have h9 := h m (by omega)
    cases e1 : S (m / 12)
    · cases e2 : S (m % 12)
      · rfl
      · rfl
    · cases e2 : S (m % 12)
      · show 0 + F m = 0
        rw [h9 e1 e2]
        rfl
      · rfl
theorem rsM_none {F : Nat → Int} {S : Nat → Bool} {m : Nat} (h : ∀ q, q < m → 0 ≤ F q) (h0 : rsM F S m = 0) {q : Nat} (hq : q < m) (h1 : S (q / 12) = true) (h2 : S (q % 12) = false) : F q = 0 := by
  have h3 := rsM_cell h1 h2 h hq
  have h4 := h q hq
  omega
/-- the cell of a pair -/
theorem cell_d {x y : Nat} (hy : y < 12) : (12 * x + y) / 12 = x ∧ (12 * x + y) % 12 = y := by omega
/-- what is left, and how much went from s to t -/
def mI (d : NtD) (s t : Nat) (F : Nat → Int32) (v : Int) : Prop := (∀ q, q < 144 → 0 ≤ (F q).toInt) ∧ ∀ S, rsM (fI F) S 144 = cpA d S d.1.toNat - (sW S s v - sW S t v)
theorem cpA_all {d : NtD} (h : tRm d) (h0 : 0 ≤ d.1) (h40 : d.1 ≤ 40) (S : Nat → Bool) : cpA d S d.1.toNat ≤ 40000 := by
  have h1 := cpA_le (d := d) (S := S) (m := d.1.toNat) (fun a ha => by have h9 := h a (by omega); exact ⟨h9.1, h9.2.1⟩)
  omega
theorem mI.lim {d : NtD} {s t : Nat} {F : Nat → Int32} {v : Int} (h : mI d s t F v) (hr : tRm d) (h0 : 0 ≤ d.1) (h40 : d.1 ≤ 40) (hts : t ≠ s) : v ≤ 40000 := by
  have h1 := h.2 (fun n => decide (n = s))
  rw [sW_in (decide_eq_true rfl), sW_out (decide_eq_false hts)] at h1
  have h2 := rsM_pos (F := fI F) (S := fun n => decide (n = s)) (m := 144) h.1
  have h3 := cpA_all hr h0 h40 (fun n => decide (n = s))
  omega
theorem sW_bd (S : Nat → Bool) (n : Nat) {v : Int} (h : 0 ≤ v) : 0 ≤ sW S n v ∧ sW S n v ≤ v := by
  unfold sW
  cases S n
  · exact ⟨Int.le_refl _, h⟩
  · exact ⟨h, Int.le_refl _⟩
theorem mI.hi {d : NtD} {s t : Nat} {F : Nat → Int32} {v : Int} (h : mI d s t F v) (hr : tRm d) (h0 : 0 ≤ d.1) (h40 : d.1 ≤ 40) (hv : 0 ≤ v) (hv2 : v ≤ 40000) (S : Nat → Bool) : rsM (fI F) S 144 ≤ 80000 := by
  have h1 := h.2 S
  have h3 := cpA_all hr h0 h40 S
  have h4 := sW_bd S s hv
  have h5 := sW_bd S t hv
  omega
/-- filling the table -/
def mG (d : NtD) (F : Nat → Int32) (i : Nat) : Prop := (∀ q, q < 144 → 0 ≤ (F q).toInt ∧ (F q).toInt ≤ 1000 * (i : Int)) ∧ ∀ S, rsM (fI F) S 144 = cpA d S i
theorem mG.start {d : NtD} {F : Nat → Int32} {i : Nat} (hi : i = 0) (h : ∀ q, q < 144 → F q = 0) : mG d F i := by
  subst hi
  have hz : ∀ q, q < 144 → (F q).toInt = 0 := fun q hq => by rw [h q hq]; decide
  exact ⟨fun q hq => by rw [hz q hq]; exact ⟨Int.le_refl _, Int.le_refl _⟩, fun S => rsM_0 hz⟩
theorem mG.step {d : NtD} {F G : Nat → Int32} {i c : Nat} {x y : Int32} (h : mG d F i) (hi : (i : Int) < d.1) (hr : tRm d) (hv : tVal d) (hc : c = 12 * tFr d i + tTo d i) (hx : x = F c) (hG : G = upd F c y) (hy : y.toInt = x.toInt + tRo d i) : mG d G (i + 1) := by
  have h1 := hr i hi
  have h2 := hv i hi
  have hc2 : c < 144 := by omega
  have hg : ∀ q, (G q).toInt = if q = c then (F c).toInt + tRo d i else (F q).toInt := fun q => by
    rw [hG]
    unfold upd
    by_cases e : q = c
    · rw [if_pos e, if_pos e, hy, hx]
    · rw [if_neg e, if_neg e]
  refine ⟨fun q hq => ?_, fun S => ?_⟩
  · have h3 := h.1 q hq
    have h4 := h.1 c hc2
    rw [hg q]
    by_cases e : q = c
    · rw [if_pos e]; omega
    · rw [if_neg e]; omega
  · rw [rsM_put (F := fI F) (G := fI G) (q := c) (k := tRo d i) hc2 (by show (G c).toInt = (F c).toInt + tRo d i; rw [hg c, if_pos rfl]) (fun p hp => by show (G p).toInt = (F p).toInt; rw [hg p, if_neg hp]), h.2 S]
    have e1 := cell_d (x := tFr d i) (y := tTo d i) h2.2.1
    rw [hc, e1.1, e1.2, ← mB_rs]
    rfl
theorem mG.done {d : NtD} {F : Nat → Int32} {i s t : Nat} (h : mG d F i) (hi : (i : Int) = d.1) : mI d s t F 0 := by
  have e : i = d.1.toNat := by omega
  refine ⟨fun q hq => (h.1 q hq).1, fun S => ?_⟩
  rw [h.2 S, sW_0, sW_0, e]
  omega
/-- a walk back over the arcs that were taken -/
def pIt (f : Nat → Int32) (t : Nat) : Nat → Nat
  | 0 => t
  | k + 1 => (f (pIt f t k)).toInt.toNat
/-- what reach tells: each node but the first has one before it, nearer, with room between -/
def RcL (s : Nat) (F f : Nat → Int32) (R : Int32) (lev : Nat → Nat) : Prop := (∀ j, j < 12 → bt R j = true → j = s ∨ ((f j).toInt.toNat < 12 ∧ 0 ≤ (f j).toInt ∧ bt R (f j).toInt.toNat = true ∧ lev (f j).toInt.toNat < lev j ∧ 0 < (F (12 * (f j).toInt.toNat + j)).toInt)) ∧ (∀ j, j < 12 → bt R j = true → lev j + 1 ≤ cntB (bt R) 12) ∧ (∀ j, bt R j = true → j < 12) ∧ bt R s = true
def ClF (F : Nat → Int32) (R : Int32) (i m : Nat) : Prop := ∀ j, j < m → 0 < (F (12 * i + j)).toInt → bt R j = true
/-- reach at the head of a turn -/
def RQ1 (s : Nat) (F f : Nat → Int32) (R E : Int32) (k : Int) : Prop := (∃ lev, RcL s F f R lev) ∧ (∀ i, i < 12 → bt R i = true → bt E i = false → ClF F R i 12) ∧ (∀ i, bt E i = true → i < 12) ∧ ((∃ i, bt E i = true) → k + 1 ≤ (cntB (bt R) 12 : Int))
/-- reach within a turn, at the node i -/
def RQ2 (s : Nat) (F f : Nat → Int32) (R E G : Int32) (k : Int) (i : Nat) : Prop := (∃ lev, RcL s F f R lev) ∧ (∀ q, q < 12 → bt R q = true → bt G q = false → (bt E q = false ∨ q < i) → ClF F R q 12) ∧ (∀ q, bt G q = true → q < 12) ∧ k + 1 ≤ (cntB (bt R) 12 : Int) ∧ ((∃ q, bt G q = true) → k + 2 ≤ (cntB (bt R) 12 : Int))
def RQ3 (s : Nat) (F f : Nat → Int32) (R E G : Int32) (k : Int) (i j : Nat) : Prop := RQ2 s F f R E G k i ∧ (bt E i = true → ClF F R i j)
/-- reach at its end -/
def RE (s : Nat) (F f : Nat → Int32) (R : Int32) : Prop := (∃ lev, RcL s F f R lev) ∧ ∀ i, i < 12 → bt R i = true → ClF F R i 12
theorem bt_bit {i : Int32} {j : Nat} (h0 : 0 ≤ i.toInt) (h1 : i.toInt ≤ 11) : bt ((1 : Int32) <<< (i &&& 31)) j = decide (j = i.toInt.toNat) := by
  have h := bI_1 (i := i.toInt.toNat) (j := j) (by omega)
  rw [nI_tz h0] at h
  exact h
theorem RQ1.first {s : Nat} {F f : Nat → Int32} {p R E : Int32} {k : Int} (h0 : 0 ≤ p.toInt) (h1 : p.toInt ≤ 11) (hs : s = p.toInt.toNat) (hR : R = (1 : Int32) <<< (p &&& 31)) (hE : E = R) (hk : k = 0) : RQ1 s F f R E k := by
  subst hE hk
  have hb : ∀ j, bt E j = decide (j = s) := fun j => by rw [hR, bt_bit h0 h1, hs]
  have hc : 0 < cntB (bt E) 12 := by
    have h9 := cntB_lt (p := fun _ => false) (q := bt E) (n := 12) (i := s) (fun _ _ h => by cases h) (by omega) rfl (by rw [hb]; exact decide_eq_true rfl)
    omega
  have hlow : ∀ j, bt E j = true → j < 12 := fun j h => by
    rw [hb] at h
    have := of_decide_eq_true h
    omega
  refine ⟨⟨fun _ => 0, fun j _ h => Or.inl ?_, fun j _ _ => by dsimp only; omega, hlow, by rw [hb]; exact decide_eq_true rfl⟩, fun i _ h3 h4 => ?_, hlow, fun _ => by omega⟩
  · rw [hb] at h
    exact of_decide_eq_true h
  · rw [h3] at h4
    cases h4
theorem RQ2.start {s : Nat} {F f : Nat → Int32} {R E G : Int32} {k : Int} {i : Nat} (h : RQ1 s F f R E k) (hE : ¬ E.toInt = 0) (hG : G = 0) (hi : i = 0) : RQ2 s F f R E G k i := by
  subst hG hi
  obtain ⟨hl, h2, h3, h4⟩ := h
  have hex : ∃ q, bt E q = true := Classical.byContradiction (fun h9 => hE (by
    have hz : E = 0 := bI_zero.mpr (fun j => by
      cases e : bI E j
      · rfl
      · exact absurd ⟨j, e⟩ h9)
    rw [hz]; decide))
  have hno : ∀ q, ¬ bt 0 q = true := fun q h9 => by
    have h8 : bt 0 q = false := bI_0 q
    rw [h8] at h9
    cases h9
  exact ⟨hl, fun q h4 h5 _ h7 => h2 q h4 h5 (h7.resolve_right (Nat.not_lt_zero q)), fun q h9 => absurd h9 (hno q), h4 hex, fun ⟨q, h9⟩ => absurd h9 (hno q)⟩
theorem RQ3.start {s : Nat} {F f : Nat → Int32} {R E G : Int32} {k : Int} {i j : Nat} (h : RQ2 s F f R E G k i) (hj : j = 0) : RQ3 s F f R E G k i j := by
  subst hj
  exact ⟨h, fun _ j hj => absurd hj (Nat.not_lt_zero j)⟩
theorem RQ3.seen {s : Nat} {F f : Nat → Int32} {R E G : Int32} {k : Int} {i j : Nat} (h : RQ3 s F f R E G k i j) (hj : bt R j = true ∨ ¬ 0 < (F (12 * i + j)).toInt) : RQ3 s F f R E G k i (j + 1) := by
  refine ⟨h.1, fun hE q hq hF => ?_⟩
  by_cases e : q = j
  · subst e
    exact hj.resolve_right (fun h9 => h9 hF)
  · exact h.2 hE q (by omega) hF
theorem RQ3.exit {s : Nat} {F f : Nat → Int32} {R E G : Int32} {k : Int} {i j : Nat} (h : RQ3 s F f R E G k i j) (hj : 12 ≤ j ∨ bt E i = false) : RQ2 s F f R E G k (i + 1) := by
  obtain ⟨⟨h1, h2, h3⟩, h4⟩ := h
  refine ⟨h1, fun q k1 k2 k3 k4 => ?_, h3⟩
  by_cases e : q = i
  · subst e
    cases e2 : bt E q
    · exact h2 q k1 k2 k3 (Or.inl e2)
    · have hj2 := hj.resolve_right (fun h9 => by rw [e2] at h9; cases h9)
      exact fun n hn hF => h4 e2 n (by omega) hF
  · exact h2 q k1 k2 k3 (k4.imp id (fun h9 => by omega))
theorem RQ2.exit {s : Nat} {F f : Nat → Int32} {R E G : Int32} {k k2 : Int} {i : Nat} (h : RQ2 s F f R E G k i) (hi : 12 ≤ i) (hk : k2 = k + 1) : RQ1 s F f R G k2 := by
  subst hk
  obtain ⟨h1, h2, h3, h4, h5⟩ := h
  refine ⟨h1, fun q k1 k2 k3 => h2 q k1 k2 k3 (Or.inr (by omega)), h3, fun h9 => ?_⟩
  have := h5 h9
  omega
theorem RQ1.done {s : Nat} {F f : Nat → Int32} {R E : Int32} {k : Int} (h : RQ1 s F f R E k) (hk : 12 ≤ k ∨ E.toInt = 0) : RE s F f R := by
  obtain ⟨h1, h2, h3, h4⟩ := h
  refine ⟨h1, fun i hi hR => h2 i hi hR ?_⟩
  cases e : bt E i
  · rfl
  · exfalso
    rcases hk with hk | hk
    · have h5 := h4 ⟨i, e⟩
      have h6 := cntB_le (bt R) 12
      omega
    · have hz : E = 0 := Int32.toInt_inj.mp (by rw [hk]; decide)
      rw [hz] at e
      have h8 : bt 0 i = false := bI_0 i
      rw [h8] at e
      cases e
theorem RQ3.add {s : Nat} {F f f2 : Nat → Int32} {R E G R2 G2 x y : Int32} {k : Int} {i j : Nat} (h : RQ3 s F f R E G k i j) (hi : i < 12) (hj : j < 12) (hx : x.toInt = (i : Int)) (hy : y.toInt = (j : Int)) (hE : bt E i = true) (hER : SubB E R) (hR : bt R j = false) (hF : 0 < (F (12 * i + j)).toInt) (hf : f2 = upd f j x) (hR2 : R2 = R ||| (1 : Int32) <<< (y &&& 31)) (hG2 : G2 = G ||| (1 : Int32) <<< (y &&& 31)) : RQ3 s F f2 R2 E G2 k i (j + 1) := by
  obtain ⟨⟨⟨lev, a1, a2, a3, a4⟩, h2, h3, h4, h5⟩, h6⟩ := h
  have ej : y.toInt.toNat = j := by omega
  have hb : ∀ q, bt R2 q = (bt R q || decide (q = j)) := fun q => by rw [hR2, bt_or, bt_bit (by omega) (by omega), ej]
  have hg : ∀ q, bt G2 q = (bt G q || decide (q = j)) := fun q => by rw [hG2, bt_or, bt_bit (by omega) (by omega), ej]
  have hup : ∀ q, bt R q = true → bt R2 q = true := fun q h9 => by rw [hb, h9]; rfl
  have hj2 : bt R2 j = true := by rw [hb, hR, decide_eq_true rfl]; rfl
  have hdn : ∀ q, bt R2 q = true → q ≠ j → bt R q = true := fun q h9 h8 => by
    rw [hb, decide_eq_false h8, Bool.or_false] at h9
    exact h9
  have hRi : bt R i = true := hER i hi hE
  have hij : i ≠ j := fun e => by rw [e, hR] at hRi; cases hRi
  have hc : cntB (bt R2) 12 = cntB (bt R) 12 + 1 := cntB_set hj hR (fun q => by
    rw [hb, Bool.or_eq_true]
    exact ⟨fun h9 => h9.imp id of_decide_eq_true, fun h9 => h9.imp id decide_eq_true⟩)
  have hxn : x.toInt.toNat = i := by omega
  have hfj : f2 j = x := by rw [hf]; exact if_pos rfl
  have hfn : ∀ q, q ≠ j → f2 q = f q := fun q h9 => by rw [hf]; exact if_neg h9
  have hli := a2 i hi hRi
  have hmono : ∀ q m, ClF F R q m → ClF F R2 q m := fun q m h9 n hn hF9 => hup n (h9 n hn hF9)
  refine ⟨⟨⟨fun n => if n = j then lev i + 1 else lev n, ?_, ?_, ?_, hup s a4⟩, ?_, ?_, by omega, fun _ => by omega⟩, ?_⟩
  · intro n hn hn2
    by_cases e : n = j
    · refine Or.inr ?_
      rw [e, hfj, hxn]
      refine ⟨hi, by omega, hup i hRi, ?_, hF⟩
      show (if i = j then lev i + 1 else lev i) < (if j = j then lev i + 1 else lev j)
      rw [if_neg hij, if_pos rfl]
      omega
    · rcases a1 n hn (hdn n hn2 e) with h9 | ⟨b1, b2, b3, b4, b5⟩
      · exact Or.inl h9
      · refine Or.inr ?_
        rw [hfn n e]
        refine ⟨b1, b2, hup _ b3, ?_, b5⟩
        show (if (f n).toInt.toNat = j then lev i + 1 else lev (f n).toInt.toNat) < (if n = j then lev i + 1 else lev n)
        rw [if_neg (fun e9 => by rw [e9, hR] at b3; cases b3), if_neg e]
        exact b4
  · intro n hn hn2
    show (if n = j then lev i + 1 else lev n) + 1 ≤ cntB (bt R2) 12
    by_cases e : n = j
    · rw [if_pos e]; omega
    · rw [if_neg e]
      have := a2 n hn (hdn n hn2 e)
      omega
  · intro n h9
    by_cases e : n = j
    · omega
    · exact a3 n (hdn n h9 e)
  · intro q k1 k2 k3 k4
    have e : q ≠ j := fun e => by rw [hg, e, decide_eq_true rfl, Bool.or_true] at k3; cases k3
    refine hmono q 12 (h2 q k1 (hdn q k2 e) ?_ k4)
    cases e2 : bt G q
    · rfl
    · rw [hg, e2] at k3; cases k3
  · intro q h9
    rw [hg, Bool.or_eq_true] at h9
    rcases h9 with h9 | h9
    · exact h3 q h9
    · have := of_decide_eq_true h9
      omega
  · intro hE9 n hn hF9
    by_cases e : n = j
    · rw [e]; exact hj2
    · exact hup n (h6 hE9 n (by omega) hF9)
/-- at the end: the greatest flow and the cut -/
theorem RE.max {d : NtD} {s t : Nat} {F f : Nat → Int32} {R : Int32} {v : Int} (h : mI d s t F v) (hE : RE s F f R) (ht : bt R t = false) (ht12 : t < 12) : mxF d s t v ∧ mxC d s t R := by
  obtain ⟨⟨lev, a1, a2, a3, a4⟩, hcl⟩ := hE
  have hsep : sep s t (bt R) := ⟨a4, ht⟩
  have hz : rsM (fI F) (bt R) 144 = 0 := rsM_zero (fun q hq h1 h2 => by
    have h3 := h.1 q hq
    by_cases e : 0 < (F q).toInt
    · have h4 := hcl (q / 12) (by omega) h1 (q % 12) (by omega) (by rw [show 12 * (q / 12) + q % 12 = q from by omega]; exact e)
      rw [h2] at h4
      cases h4
    · show (F q).toInt = 0
      omega)
  have hv : cpA d (bt R) d.1.toNat = v := by
    have h9 := h.2 (bt R)
    rw [hz, sW_in hsep.1, sW_out hsep.2] at h9
    omega
  have hle : ∀ S, sep s t S → v ≤ cpA d S d.1.toNat := fun S hS => by
    have h9 := h.2 S
    have h8 := rsM_pos (F := fI F) (S := S) (m := 144) h.1
    rw [sW_in hS.1, sW_out hS.2] at h9
    omega
  refine ⟨⟨⟨bt R, hsep, hv⟩, hle⟩, hsep, fun S hS => by show cpA d (bt R) d.1.toNat ≤ _; rw [hv]; exact hle S hS, fun S hS e n hn hn2 => ?_, a3⟩
  have e2 : cpA d S d.1.toNat = v := e.trans hv
  have h0 : rsM (fI F) S 144 = 0 := by
    have h9 := h.2 S
    rw [sW_in hS.1, sW_out hS.2] at h9
    omega
  have key : ∀ m n, lev n < m → n < 12 → bt R n = true → S n = true := by
    intro m
    induction m with
    | zero => intro n h9; exact absurd h9 (Nat.not_lt_zero _)
    | succ m ih =>
      intro n h9 hn9 hR9
      rcases a1 n hn9 hR9 with e9 | ⟨b1, b2, b3, b4, b5⟩
      · rw [e9]; exact hS.1
      · have hp := ih (f n).toInt.toNat (by omega) b1 b3
        cases e8 : S n
        · exfalso
          have c1 := cell_d (x := (f n).toInt.toNat) (y := n) hn9
          have h7 := rsM_none (F := fI F) (S := S) (m := 144) h.1 h0 (q := 12 * (f n).toInt.toNat + n) (by omega) (by rw [c1.1]; exact hp) (by rw [c1.2]; exact e8)
          have h6 : (F (12 * (f n).toInt.toNat + n)).toInt = 0 := h7
          omega
        · rfl
  exact key (lev n + 1) n (by omega) hn hn2
/-- the way back is measured -/
def Wk1 (t : Nat) (F f : Nat → Int32) (R : Int32) (lev : Nat → Nat) (i n : Nat) (w : Int) : Prop := n = pIt f t i ∧ n < 12 ∧ bt R n = true ∧ lev n + i ≤ 11 ∧ 1 ≤ w ∧ ∀ k, k < i → w ≤ (F (12 * pIt f t (k + 1) + pIt f t k)).toInt
theorem Wk1.start {s t : Nat} {F f : Nat → Int32} {R : Int32} {lev : Nat → Nat} {i n : Nat} {w : Int} (h : RcL s F f R lev) (ht : t < 12) (hR : bt R t = true) (hi : i = 0) (hn : n = t) (hw : 1 ≤ w) : Wk1 t F f R lev i n w := by
  subst hi hn
  have h1 := h.2.1 n ht hR
  have h2 := cntB_le (bt R) 12
  exact ⟨rfl, ht, hR, by omega, hw, fun k hk => absurd hk (Nat.not_lt_zero k)⟩
theorem Wk1.at {s t : Nat} {F f : Nat → Int32} {R : Int32} {lev : Nat → Nat} {i n : Nat} {w : Int} (h : Wk1 t F f R lev i n w) (hL : RcL s F f R lev) (hs : n ≠ s) : (f n).toInt.toNat < 12 ∧ 0 ≤ (f n).toInt ∧ bt R (f n).toInt.toNat = true ∧ lev (f n).toInt.toNat < lev n ∧ 0 < (F (12 * (f n).toInt.toNat + n)).toInt := (hL.1 n h.2.1 h.2.2.1).resolve_left hs
theorem Wk1.step {s t : Nat} {F f : Nat → Int32} {R : Int32} {lev : Nat → Nat} {i i2 n n2 : Nat} {w w2 : Int} (h : Wk1 t F f R lev i n w) (hL : RcL s F f R lev) (hs : n ≠ s) (hn : n2 = (f n).toInt.toNat) (hi : i2 = i + 1) (h1 : w2 ≤ w) (h2 : w2 ≤ (F (12 * n2 + n)).toInt) (h3 : 1 ≤ w2) : Wk1 t F f R lev i2 n2 w2 := by
  have ha := h.at hL hs
  obtain ⟨b1, b2, b3, b4, b5, b6⟩ := h
  subst hi
  have e : pIt f t (i + 1) = n2 := by
    show (f (pIt f t i)).toInt.toNat = n2
    rw [← b1, hn]
  rw [← hn] at ha
  refine ⟨e.symm, ha.1, ha.2.2.1, by omega, h3, fun k hk => ?_⟩
  by_cases e2 : k = i
  · subst e2
    rw [e, ← b1]
    exact h2
  · have := b6 k (by omega)
    omega
theorem Wk1.stop {t : Nat} {F f : Nat → Int32} {R : Int32} {lev : Nat → Nat} {i n : Nat} {w : Int} (h : Wk1 t F f R lev i n w) (hi : 12 ≤ i) : False := by
  have := h.2.2.2.1
  omega
/-- the way back is used -/
def Wk2 (t : Nat) (F f F2 : Nat → Int32) (R : Int32) (lev : Nat → Nat) (w : Int) (I0 i n : Nat) : Prop := n = pIt f t i ∧ n < 12 ∧ bt R n = true ∧ lev n + i ≤ 11 ∧ i ≤ I0 ∧ (∀ q, q < 144 → 0 ≤ (F2 q).toInt) ∧ (∀ S, rsM (fI F2) S 144 = rsM (fI F) S 144 - (sW S n w - sW S t w)) ∧ ∀ x y, x < 12 → y < 12 → lev x ≤ lev n → lev y ≤ lev n → F2 (12 * x + y) = F (12 * x + y)
theorem Wk2.start {s t : Nat} {F f : Nat → Int32} {R : Int32} {lev : Nat → Nat} {w : Int} {I0 i n : Nat} (h : RcL s F f R lev) (ht : t < 12) (hR : bt R t = true) (hF : ∀ q, q < 144 → 0 ≤ (F q).toInt) (hi : i = 0) (hn : n = t) : Wk2 t F f F R lev w I0 i n := by
  subst hi hn
  have h1 := h.2.1 n ht hR
  have h2 := cntB_le (bt R) 12
  exact ⟨rfl, ht, hR, by omega, Nat.zero_le _, hF, fun S => by omega, fun _ _ _ _ _ _ => rfl⟩
theorem Wk2.at {s t : Nat} {F f F2 : Nat → Int32} {R : Int32} {lev : Nat → Nat} {w : Int} {I0 i n : Nat} (h : Wk2 t F f F2 R lev w I0 i n) (hL : RcL s F f R lev) (hs : n ≠ s) : (f n).toInt.toNat < 12 ∧ 0 ≤ (f n).toInt ∧ bt R (f n).toInt.toNat = true ∧ lev (f n).toInt.toNat < lev n ∧ 0 < (F (12 * (f n).toInt.toNat + n)).toInt := (hL.1 n h.2.1 h.2.2.1).resolve_left hs
theorem Wk2.wid {s t : Nat} {F f F2 : Nat → Int32} {R : Int32} {lev : Nat → Nat} {w : Int} {I0 i n m : Nat} (h : Wk2 t F f F2 R lev w I0 i n) (hL : RcL s F f R lev) (h1 : Wk1 t F f R lev I0 m w) (hm : m = s) (hs : n ≠ s) : w ≤ (F2 (12 * (f n).toInt.toNat + n)).toInt := by
  have ha := h.at hL hs
  obtain ⟨b1, b2, b3, b4, b5, b6, b7, b8⟩ := h
  rw [b8 _ _ ha.1 b2 (by omega) (Nat.le_refl _)]
  have hi : i ≠ I0 := fun e => hs (by rw [b1, e, ← h1.1, hm])
  have h9 := h1.2.2.2.2.2 i (by omega)
  have e : pIt f t (i + 1) = (f n).toInt.toNat := by
    show (f (pIt f t i)).toInt.toNat = _
    rw [← b1]
  rw [e, ← b1] at h9
  exact h9
theorem Wk2.hi {d : NtD} {s t : Nat} {F f F2 : Nat → Int32} {R : Int32} {lev : Nat → Nat} {w v : Int} {I0 i n : Nat} (h : Wk2 t F f F2 R lev w I0 i n) (hI : mI d s t F v) (hr : tRm d) (h0 : 0 ≤ d.1) (h40 : d.1 ≤ 40) (hv : 0 ≤ v) (hv2 : v ≤ 40000) (hw : 0 ≤ w) {p : Nat} (hp : p < 12) (hpn : p ≠ n) : (F2 (12 * n + p)).toInt ≤ 80000 := by
  obtain ⟨b1, b2, b3, b4, b5, b6, b7, b8⟩ := h
  have c1 := cell_d (x := n) (y := p) hp
  have h1 := rsM_cell (F := fI F2) (S := fun q => decide (q = n)) (q := 12 * n + p) (by rw [c1.1]; exact decide_eq_true rfl) (by rw [c1.2]; exact decide_eq_false hpn) (m := 144) b6 (by omega)
  have h2 := b7 (fun q => decide (q = n))
  rw [sW_in (decide_eq_true rfl)] at h2
  have h3 := hI.hi hr h0 h40 hv hv2 (fun q => decide (q = n))
  have h4 := sW_bd (fun q => decide (q = n)) t hw
  show fI F2 (12 * n + p) ≤ 80000
  omega
theorem Wk2.step {s t : Nat} {F f F2 F3 F4 : Nat → Int32} {R : Int32} {lev : Nat → Nat} {w : Int} {I0 i i2 n n2 m c e : Nat} {x y : Int32} (h : Wk2 t F f F2 R lev w I0 i n) (hL : RcL s F f R lev) (h1 : Wk1 t F f R lev I0 m w) (hm : m = s) (hs : n ≠ s) (hn : n2 = (f n).toInt.toNat) (hi : i2 = i + 1) (hc : c = 12 * n2 + n) (he : e = 12 * n + n2) (hF3 : F3 = upd F2 c x) (hx : x.toInt = (F2 c).toInt - w) (hF4 : F4 = upd F3 e y) (hy : y.toInt = (F3 e).toInt + w) : Wk2 t F f F4 R lev w I0 i2 n2 := by
  have ha := h.at hL hs
  have hwd := h.wid hL h1 hm hs
  have hi9 : i ≠ I0 := fun e9 => hs (by rw [h.1, e9, ← h1.1, hm])
  have hw1 := h1.2.2.2.2.1
  obtain ⟨b1, b2, b3, b4, b5, b6, b7, b8⟩ := h
  rw [← hn] at ha hwd
  have hne : n2 ≠ n := fun e9 => by have h9 := ha.2.2.2.1; rw [e9] at h9; omega
  have hce : e ≠ c := by omega
  have h3 : ∀ q, q ≠ c → F3 q = F2 q := fun q h9 => by rw [hF3]; exact if_neg h9
  have h3c : F3 c = x := by rw [hF3]; exact if_pos rfl
  have h4 : ∀ q, q ≠ e → F4 q = F3 q := fun q h9 => by rw [hF4]; exact if_neg h9
  have h4e : F4 e = y := by rw [hF4]; exact if_pos rfl
  have e1 : pIt f t (i + 1) = n2 := by
    show (f (pIt f t i)).toInt.toNat = n2
    rw [← b1, hn]
  subst hi
  refine ⟨e1.symm, ha.1, ha.2.2.1, by omega, by omega, fun q hq => ?_, fun S => ?_, fun x9 y9 k1 k2 k3 k4 => ?_⟩
  · have h9 := b6 q hq
    by_cases q1 : q = e
    · rw [q1, h4e, hy, h3 e hce]
      have := b6 e (by omega)
      omega
    · rw [h4 q q1]
      by_cases q2 : q = c
      · rw [q2, h3c, hx, hc]
        omega
      · rw [h3 q q2]; exact h9
  · have m1 := rsM_put (F := fI F2) (G := fI F3) (S := S) (q := c) (k := -w) (m := 144) (by omega) (by show (F3 c).toInt = (F2 c).toInt + -w; rw [h3c, hx]; omega) (fun p hp => by show (F3 p).toInt = (F2 p).toInt; rw [h3 p hp])
    have m2 := rsM_put (F := fI F3) (G := fI F4) (S := S) (q := e) (k := w) (m := 144) (by omega) (by show (F4 e).toInt = (F3 e).toInt + w; rw [h4e, hy]) (fun p hp => by show (F4 p).toInt = (F3 p).toInt; rw [h4 p hp])
    have c1 := cell_d (x := n2) (y := n) b2
    have c2 := cell_d (x := n) (y := n2) ha.1
    rw [hc, c1.1, c1.2] at m1
    rw [he, c2.1, c2.2] at m2
    have m3 := mB_two (S n2) (S n) w
    have m4 := b7 S
    unfold sW at m4 ⊢
    omega
  · have hle := ha.2.2.2.1
    have q1 : 12 * x9 + y9 ≠ e := fun e9 => by
      have hx9 : x9 = n := by omega
      rw [hx9] at k3
      omega
    have q2 : 12 * x9 + y9 ≠ c := fun e9 => by
      have hy9 : y9 = n := by omega
      rw [hy9] at k4
      omega
    rw [h4 _ q1, h3 _ q2]
    exact b8 x9 y9 k1 k2 (by omega) (by omega)
theorem Wk2.stop {t : Nat} {F f F2 : Nat → Int32} {R : Int32} {lev : Nat → Nat} {w : Int} {I0 i n : Nat} (h : Wk2 t F f F2 R lev w I0 i n) (hi : 12 ≤ i) : False := by
  have := h.2.2.2.1
  omega
theorem Wk2.done {d : NtD} {s t : Nat} {F f F2 : Nat → Int32} {R : Int32} {lev : Nat → Nat} {w v v2 : Int} {I0 i n : Nat} (h : Wk2 t F f F2 R lev w I0 i n) (hI : mI d s t F v) (hn : n = s) (hv : v2 = v + w) : mI d s t F2 v2 := by
  obtain ⟨b1, b2, b3, b4, b5, b6, b7, b8⟩ := h
  refine ⟨b6, fun S => ?_⟩
  rw [b7 S, hI.2 S, hn, hv, sW_add, sW_add]
  omega
theorem mI.cell {d : NtD} {s t : Nat} {F : Nat → Int32} {v : Int} (h : mI d s t F v) (hr : tRm d) (h0 : 0 ≤ d.1) (h40 : d.1 ≤ 40) (hv : 0 ≤ v) (hv2 : v ≤ 40000) {p n : Nat} (hp : p < 12) (hn : n < 12) (hpn : p ≠ n) : (F (12 * p + n)).toInt ≤ 80000 := by
  have c1 := cell_d (x := p) (y := n) hn
  have h1 := rsM_cell (F := fI F) (S := fun q => decide (q = p)) (q := 12 * p + n) (by rw [c1.1]; exact decide_eq_true rfl) (by rw [c1.2]; exact decide_eq_false (Ne.symm hpn)) (m := 144) h.1 (by omega)
  have h3 := h.hi hr h0 h40 hv hv2 (fun q => decide (q = p))
  show fI F (12 * p + n) ≤ 80000
  omega
theorem Wk1.w80 {d : NtD} {s t : Nat} {F f : Nat → Int32} {R : Int32} {lev : Nat → Nat} {I0 m : Nat} {w v : Int} (h : Wk1 t F f R lev I0 m w) (hL : RcL s F f R lev) (hR : bt R t = true) (ht : t < 12) (hI : mI d s t F v) (hr : tRm d) (h0 : 0 ≤ d.1) (h40 : d.1 ≤ 40) (hv : 0 ≤ v) (hv2 : v ≤ 40000) (hm : m = s) (hts : t ≠ s) : w ≤ 80000 := by
  obtain ⟨b1, b2, b3, b4, b5, b6⟩ := h
  have hi : I0 ≠ 0 := fun e => hts (by rw [e] at b1; rw [← hm, b1]; rfl)
  have h1 := b6 0 (by omega)
  have ha := (hL.1 t ht hR).resolve_left hts
  have h2 := hI.cell hr h0 h40 hv hv2 (p := (f t).toInt.toNat) (n := t) ha.1 ht (fun e => by have h9 := ha.2.2.2.1; rw [e] at h9; omega)
  have h3 : w ≤ (F (12 * (f t).toInt.toNat + t)).toInt := h1
  omega

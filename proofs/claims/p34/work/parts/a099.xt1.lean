/-! trees: what is joined -/
def btL (x : Int64) (j : Nat) : Bool := x.toBitVec.getLsbD j
theorem btL_or (x y : Int64) (j : Nat) : btL (x ||| y) j = (btL x j || btL y j) := by
  unfold btL; rw [Int64.toBitVec_or, BitVec.getLsbD_or]
theorem btL_0 (j : Nat) : btL 0 j = false := by
  unfold btL; show (0#64).getLsbD j = false; exact BitVec.getLsbD_zero
theorem btL_1all : ((List.range 40).all (fun i => (List.range 64).all (fun j => decide (btL ((1 : Int64) <<< ((nI i).toInt64 &&& 63)) j = decide (j = i))))) = true := by decide +kernel
theorem btL_1 {i j : Nat} (hi : i < 40) (hj : j < 64) : btL ((1 : Int64) <<< ((nI i).toInt64 &&& 63)) j = decide (j = i) :=
  of_decide_eq_true (List.all_eq_true.mp (List.all_eq_true.mp btL_1all i (List.mem_range.mpr hi)) j (List.mem_range.mpr hj))
theorem btL_big {x : Int64} {j : Nat} (h : 64 ≤ j) : btL x j = false := by
  unfold btL; exact BitVec.getLsbD_of_ge _ _ h
theorem btL_set {x : Int64} {i j : Nat} (hi : i < 40) : btL (x ||| ((1 : Int64) <<< ((nI i).toInt64 &&& 63))) j = true ↔ (btL x j = true ∨ j = i) := by
  by_cases hj : j < 64
  · rw [btL_or, btL_1 hi hj, Bool.or_eq_true, decide_eq_true_iff]
  · rw [btL_big (by omega), btL_big (by omega)]
    constructor
    · intro h; exact Or.inl h
    · rintro (h | h)
      · exact h
      · omega
theorem btL_ext {x y : Int64} (h : ∀ j, btL x j = true ↔ btL y j = true) : x = y := by
  apply Int64.toBitVec_inj.mp
  apply BitVec.eq_of_getLsbD_eq
  intro i _
  have h9 := h i
  unfold btL at h9
  cases e1 : x.toBitVec.getLsbD i <;> cases e2 : y.toBitVec.getLsbD i
  · rfl
  · exact absurd (h9.mpr e2) (by rw [e1]; decide)
  · exact absurd (h9.mp e1) (by rw [e2]; decide)
  · rfl
theorem andL1 (y : Int64) : y &&& 1 = lN (y.toBitVec.toNat % 2) := by
  apply Int64.toBitVec_inj.mp
  apply BitVec.eq_of_toNat_eq
  have h2 : (lN (y.toBitVec.toNat % 2)).toBitVec.toNat = y.toBitVec.toNat % 2 := Nat.mod_eq_of_lt (by omega)
  rw [Int64.toBitVec_and, BitVec.toNat_and, h2]
  exact Nat.and_two_pow_sub_one_eq_mod _ 1
theorem btL_and1 (y : Int64) : (btL y 0 = true ∧ (y &&& 1).toInt = 1) ∨ (btL y 0 = false ∧ (y &&& 1).toInt = 0) := by
  have hb : btL y 0 = decide (y.toBitVec.toNat % 2 = 1) := by
    unfold btL; rw [BitVec.getLsbD, Nat.testBit_zero]
  have h2 := Nat.mod_lt y.toBitVec.toNat (show 0 < 2 by decide)
  rw [andL1, hb, pk_lT (by omega)]
  by_cases e : y.toBitVec.toNat % 2 = 1
  · left; simp [e]
  · right; simp [e]; omega
theorem btL_shr {x : Int64} {k : Nat} (hk : k < 64) : btL (x >>> ((nI k).toInt64 &&& 63)) 0 = btL x k := by
  unfold btL
  have h3 : (BitVec.ofNat 64 k).toNat = k := Nat.mod_eq_of_lt (by omega)
  rw [Int64.toBitVec_shiftRight, BitVec.sshiftRight', sm64 k hk, h3, BitVec.getLsbD_sshiftRight]
  simp [hk]
/-- an arc's nodes and cost -/
def tFr (d : NtD) (b : Nat) : Nat := (d.2.1 b).toInt.toNat
def tTo (d : NtD) (b : Nat) : Nat := (d.2.2.1 b).toInt.toNat
def tCo (d : NtD) (b : Nat) : Int := (d.2.2.2.2 b).toInt
/-- what the arcs are -/
def tVal (d : NtD) : Prop := ∀ b : Nat, (b : Int) < d.1 → tFr d b < 12 ∧ tTo d b < 12 ∧ 0 ≤ tCo d b ∧ tCo d b ≤ 1000
/-- b is an arc that comes before a -/
def tBef (d : NtD) (a b : Nat) : Prop := (b : Int) < d.1 ∧ (tCo d b < tCo d a ∨ (tCo d b = tCo d a ∧ b < a))
/-- joined by the arcs of P -/
def tCon (d : NtD) (P : Nat → Prop) (i j : Nat) : Prop := ∀ R : Nat → Nat → Prop, (∀ x, R x x) → (∀ x y, R x y → R y x) → (∀ x y z, R x y → R y z → R x z) → (∀ b, P b → R (tFr d b) (tTo d b)) → R i j
theorem tCon.mono {d : NtD} {P Q : Nat → Prop} {i j : Nat} (h : tCon d P i j) (hs : ∀ b, P b → Q b) : tCon d Q i j := fun R r s t c => h R r s t (fun b hb => c b (hs b hb))
theorem tCon.symm {d : NtD} {P : Nat → Prop} {i j : Nat} (h : tCon d P i j) : tCon d P j i := fun R r s t c => s _ _ (h R r s t c)
theorem tCon.trans {d : NtD} {P : Nat → Prop} {i j k : Nat} (h : tCon d P i j) (h2 : tCon d P j k) : tCon d P i k := fun R r s t c => t _ _ _ (h R r s t c) (h2 R r s t c)
theorem tCon.arc {d : NtD} {P : Nat → Prop} {b : Nat} (h : P b) : tCon d P (tFr d b) (tTo d b) := fun _ _ _ _ c => c b h
/-- the arc is taken -/
def tIn (d : NtD) (a : Nat) : Prop := ¬ tCon d (tBef d a) (tFr d a) (tTo d a)
/-- the tree's arcs as bits -/
def tAll (d : NtD) (x : Int64) : Prop := ∀ j, btL x j = true ↔ ((j : Int) < d.1 ∧ tIn d j)
theorem tAll.eq {d : NtD} {x y : Int64} (h : tAll d x) (h2 : tAll d y) : x = y := btL_ext (fun j => (h j).trans (h2 j).symm)
/-- labels tell what is joined -/
def tLab (d : NtD) (P : Nat → Prop) (g : Nat → Int32) : Prop := ∀ i j, i < 12 → j < 12 → ((g i).toInt = (g j).toInt ↔ tCon d P i j)
theorem tLab.start {d : NtD} {g : Nat → Int32} (h : ∀ i, i < 12 → (g i).toInt = (i : Int)) : tLab d (fun _ => False) g := by
  intro i j hi hj
  rw [h i hi, h j hj]
  constructor
  · intro e
    have : i = j := by omega
    subst this
    exact fun _ r _ _ _ => r i
  · intro c
    have : i = j := c (fun x y => x = y) (fun _ => rfl) (fun _ _ e => e.symm) (fun _ _ _ e f => e.trans f) (fun _ h => h.elim)
    rw [this]
theorem tLab.congr {d : NtD} {P Q : Nat → Prop} {g : Nat → Int32} (h : tLab d P g) (hq : ∀ b, Q b ↔ P b) : tLab d Q g := fun i j hi hj => ⟨fun e => ((h i j hi hj).mp e).mono (fun b hb => (hq b).mpr hb), fun c => (h i j hi hj).mpr (c.mono (fun b hb => (hq b).mp hb))⟩
theorem tLab.skip {d : NtD} {P Q : Nat → Prop} {g : Nat → Int32} {a : Nat} (h : tLab d P g) (hq : ∀ b, Q b ↔ (P b ∨ b = a)) (hn : ∀ b, Q b → tFr d b < 12 ∧ tTo d b < 12) (he : (g (tFr d a)).toInt = (g (tTo d a)).toInt) : tLab d Q g := by
  intro i j hi hj
  constructor
  · intro e
    exact ((h i j hi hj).mp e).mono (fun b hb => (hq b).mpr (Or.inl hb))
  · intro c
    refine c (fun x y => (g x).toInt = (g y).toInt) (fun _ => rfl) (fun _ _ e => e.symm) (fun _ _ _ e f => e.trans f) (fun b hb => ?_)
    rcases (hq b).mp hb with hp | rfl
    · exact (h _ _ (hn b hb).1 (hn b hb).2).mpr (tCon.arc hp)
    · exact he
theorem tLab.join {d : NtD} {P Q : Nat → Prop} {g g' : Nat → Int32} {a : Nat} {gone kept : Int} (h : tLab d P g) (hq : ∀ b, Q b ↔ (P b ∨ b = a)) (hn : ∀ b, Q b → tFr d b < 12 ∧ tTo d b < 12) (hg : ∀ i, i < 12 → (g' i).toInt = if (g i).toInt = gone then kept else (g i).toInt)
    (ho : (gone = (g (tFr d a)).toInt ∧ kept = (g (tTo d a)).toInt) ∨ (gone = (g (tTo d a)).toInt ∧ kept = (g (tFr d a)).toInt)) : tLab d Q g' := by
  have ha : Q a := (hq a).mpr (Or.inr rfl)
  have ha1 := (hn a ha).1
  have ha2 := (hn a ha).2
  have up : ∀ {i j : Nat}, i < 12 → j < 12 → (g i).toInt = (g j).toInt → tCon d Q i j := fun hi hj e => ((h _ _ hi hj).mp e).mono (fun b hb => (hq b).mpr (Or.inl hb))
  have both : ∀ {i j : Nat}, i < 12 → j < 12 → (g i).toInt = gone → (g j).toInt = kept → tCon d Q i j := by
    intro i j hi hj e1 e2
    rcases ho with ⟨o1, o2⟩ | ⟨o1, o2⟩
    · exact (up hi ha1 (e1.trans o1)).trans ((tCon.arc ha).trans (up ha2 hj (o2.symm.trans e2.symm)))
    · exact (up hi ha2 (e1.trans o1)).trans ((tCon.arc ha).symm.trans (up ha1 hj (o2.symm.trans e2.symm)))
  intro i j hi hj
  constructor
  · intro e
    rw [hg i hi, hg j hj] at e
    by_cases e1 : (g i).toInt = gone
    · by_cases e2 : (g j).toInt = gone
      · exact up hi hj (e1.trans e2.symm)
      · rw [if_pos e1, if_neg e2] at e
        exact both hi hj e1 e.symm
    · by_cases e2 : (g j).toInt = gone
      · rw [if_neg e1, if_pos e2] at e
        exact (both hj hi e2 e).symm
      · rw [if_neg e1, if_neg e2] at e
        exact up hi hj e
  · intro c
    refine c (fun x y => (g' x).toInt = (g' y).toInt) (fun _ => rfl) (fun _ _ e => e.symm) (fun _ _ _ e f => e.trans f) (fun b hb => ?_)
    show (g' (tFr d b)).toInt = (g' (tTo d b)).toInt
    rw [hg _ (hn b hb).1, hg _ (hn b hb).2]
    rcases (hq b).mp hb with hp | rfl
    · rw [(h _ _ (hn b hb).1 (hn b hb).2).mpr (tCon.arc hp)]
    · rcases ho with ⟨o1, o2⟩ | ⟨o1, o2⟩
      · rw [if_pos o1.symm, ← o2]
        by_cases e2 : kept = gone
        · rw [if_pos e2]
        · rw [if_neg e2]
      · rw [if_pos (show (g (tTo d b)).toInt = gone from o1.symm), ← o2]
        by_cases e2 : kept = gone
        · rw [if_pos e2]
        · rw [if_neg e2]
/-- the reference: arcs up to cost c, of cost c those ahead of a -/
def tPas (d : NtD) (c : Int) (a b : Nat) : Prop := (b : Int) < d.1 ∧ (tCo d b < c ∨ (tCo d b = c ∧ b < a))
def tRef (d : NtD) (c : Int) (a : Nat) (x : Int64) (g : Nat → Int32) : Prop := tLab d (tPas d c a) g ∧ ∀ j, btL x j = true ↔ (tPas d c a j ∧ tIn d j)
theorem tRef.start {d : NtD} {g : Nat → Int32} (hv : tVal d) (h : ∀ i, i < 12 → (g i).toInt = (i : Int)) : tRef d 0 0 0 g := by
  have h0 : ∀ b, tPas d 0 0 b ↔ False := by
    intro b
    constructor
    · rintro ⟨h1, h2 | ⟨_, h2⟩⟩
      · have := (hv b h1).2.2.1; omega
      · omega
    · exact False.elim
  refine ⟨(tLab.start h).congr h0, fun j => ?_⟩
  rw [btL_0, h0 j]
  constructor
  · intro h; cases h
  · intro h; exact h.1.elim
theorem tRef.other {d : NtD} {c : Int} {a : Nat} {x : Int64} {g : Nat → Int32} (h : tRef d c a x g) (hc : tCo d a ≠ c) : tRef d c (a + 1) x g := by
  have h0 : ∀ b, tPas d c (a + 1) b ↔ tPas d c a b := by
    intro b
    unfold tPas
    by_cases e : b = a
    · subst e
      constructor
      · rintro ⟨h1, h2 | ⟨h2, _⟩⟩
        · exact ⟨h1, Or.inl h2⟩
        · exact absurd h2 hc
      · rintro ⟨h1, h2 | ⟨h2, _⟩⟩
        · exact ⟨h1, Or.inl h2⟩
        · exact absurd h2 hc
    · have : b < a + 1 ↔ b < a := by omega
      rw [this]
  exact ⟨h.1.congr h0, fun j => by rw [h0 j]; exact h.2 j⟩
theorem tPas.more {d : NtD} {a : Nat} (ha : (a : Int) < d.1) (b : Nat) : tPas d (tCo d a) (a + 1) b ↔ (tPas d (tCo d a) a b ∨ b = a) := by
  unfold tPas
  constructor
  · rintro ⟨h1, h2 | ⟨h2, h3⟩⟩
    · exact Or.inl ⟨h1, Or.inl h2⟩
    · by_cases e : b = a
      · exact Or.inr e
      · exact Or.inl ⟨h1, Or.inr ⟨h2, by omega⟩⟩
  · rintro (⟨h1, h2 | ⟨h2, h3⟩⟩ | rfl)
    · exact ⟨h1, Or.inl h2⟩
    · exact ⟨h1, Or.inr ⟨h2, by omega⟩⟩
    · exact ⟨ha, Or.inr ⟨rfl, by omega⟩⟩
theorem tPas.node {d : NtD} (hv : tVal d) {c : Int} {a b : Nat} (h : tPas d c a b) : tFr d b < 12 ∧ tTo d b < 12 := ⟨(hv b h.1).1, (hv b h.1).2.1⟩
theorem tPas.self {d : NtD} {a : Nat} : ¬ tPas d (tCo d a) a a := by
  rintro ⟨_, h | ⟨_, h⟩⟩ <;> omega
theorem tRef.same {d : NtD} {c : Int} {a : Nat} {x : Int64} {g : Nat → Int32} (h : tRef d c a x g) (hv : tVal d) (ha : (a : Int) < d.1) (hc : tCo d a = c) (he : (g (tFr d a)).toInt = (g (tTo d a)).toInt) : tRef d c (a + 1) x g := by
  subst hc
  have hm := tPas.more (d := d) ha
  refine ⟨h.1.skip hm (fun b hb => tPas.node hv hb) he, fun j => ?_⟩
  rw [hm j, h.2 j]
  constructor
  · rintro ⟨h1, h2⟩; exact ⟨Or.inl h1, h2⟩
  · rintro ⟨h1 | rfl, h2⟩
    · exact ⟨h1, h2⟩
    · exact absurd ((h.1 _ _ (hv j ha).1 (hv j ha).2.1).mp he) h2
theorem tRef.take {d : NtD} {c : Int} {a : Nat} {x : Int64} {g g' : Nat → Int32} (h : tRef d c a x g) (hv : tVal d) (ha : (a : Int) < d.1) (ha40 : a < 40) (hc : tCo d a = c) (he : (g (tFr d a)).toInt ≠ (g (tTo d a)).toInt) (hg : ∀ i, i < 12 → (g' i).toInt = if (g i).toInt = (g (tTo d a)).toInt then (g (tFr d a)).toInt else (g i).toInt) : tRef d c (a + 1) (x ||| ((1 : Int64) <<< ((nI a).toInt64 &&& 63))) g' := by
  subst hc
  have hm := tPas.more (d := d) ha
  refine ⟨h.1.join hm (fun b hb => tPas.node hv hb) hg (Or.inr ⟨rfl, rfl⟩), fun j => ?_⟩
  rw [btL_set ha40, hm j, h.2 j]
  constructor
  · rintro (⟨h1, h2⟩ | rfl)
    · exact ⟨Or.inl h1, h2⟩
    · exact ⟨Or.inr rfl, fun c9 => he ((h.1 _ _ (hv j ha).1 (hv j ha).2.1).mpr c9)⟩
  · rintro ⟨h1 | rfl, h2⟩
    · exact Or.inl ⟨h1, h2⟩
    · exact Or.inr rfl
theorem tRef.next {d : NtD} {c : Int} {a : Nat} {x : Int64} {g : Nat → Int32} (h : tRef d c a x g) (ha : (a : Int) = d.1) : tRef d (c + 1) 0 x g := by
  have h0 : ∀ b, tPas d (c + 1) 0 b ↔ tPas d c a b := by
    intro b
    unfold tPas
    constructor
    · rintro ⟨h1, h2 | ⟨_, h2⟩⟩
      · by_cases e : tCo d b = c
        · exact ⟨h1, Or.inr ⟨e, by omega⟩⟩
        · exact ⟨h1, Or.inl (by omega)⟩
      · omega
    · rintro ⟨h1, h2 | ⟨h2, _⟩⟩
      · exact ⟨h1, Or.inl (by omega)⟩
      · exact ⟨h1, Or.inl (by omega)⟩
  exact ⟨h.1.congr h0, fun j => by rw [h0 j]; exact h.2 j⟩
theorem tRef.done {d : NtD} {x : Int64} {g : Nat → Int32} (h : tRef d 1001 0 x g) (hv : tVal d) : tAll d x := by
  intro j
  rw [h.2 j]
  constructor
  · rintro ⟨h1, h2⟩; exact ⟨h1.1, h2⟩
  · rintro ⟨h1, h2⟩; exact ⟨⟨h1, Or.inl (by have := (hv j h1).2.2.2; omega)⟩, h2⟩
/-- the class: the arcs that are seen are k that come first -/
def tCls (d : NtD) (k : Int) (s x : Int64) (g : Nat → Int32) : Prop := (∀ b, btL s b = true → (b : Int) < d.1) ∧ (∀ b c, btL s b = true → tBef d b c → btL s c = true) ∧ ((cntB (btL s) d.1.toNat : Nat) : Int) = k ∧ tLab d (fun b => btL s b = true) g ∧ ∀ j, btL x j = true ↔ (btL s j = true ∧ tIn d j)
theorem tCls.start {d : NtD} {g : Nat → Int32} (h : ∀ i, i < 12 → (g i).toInt = (i : Int)) : tCls d 0 0 0 g := by
  have h0 : ∀ b, btL 0 b = true ↔ False := fun b => by rw [btL_0]; constructor <;> intro h <;> cases h
  refine ⟨fun b hb => ((h0 b).mp hb).elim, fun b c hb => ((h0 b).mp hb).elim, ?_, (tLab.start h).congr h0, fun j => ?_⟩
  · have : ∀ n, cntB (btL 0) n = 0 := by
      intro n
      induction n with
      | zero => rfl
      | succ n ih => unfold cntB; rw [ih, if_neg (fun h => (h0 n).mp h)]
    rw [this]; rfl
  · rw [h0 j]
    constructor
    · intro h; exact h.elim
    · intro h; exact h.1.elim
/-- the cheapest that is not seen -/
def tLea (d : NtD) (s : Int64) (r : Nat) : Prop := (r : Int) < d.1 ∧ btL s r = false ∧ ∀ b : Nat, (b : Int) < d.1 → btL s b = false → tCo d r < tCo d b ∨ (tCo d r = tCo d b ∧ r ≤ b)
theorem tCls.some {d : NtD} {k : Int} {s x : Int64} {g : Nat → Int32} (h : tCls d k s x g) (hk : k < d.1) : ∃ b : Nat, (b : Int) < d.1 ∧ btL s b = false := by
  obtain ⟨i, h1, h2⟩ := cntB_some (f := btL s) (n := d.1.toNat) (by have := h.2.2.1; omega)
  exact ⟨i, by omega, h2⟩
theorem tCls.before {d : NtD} {k : Int} {s x : Int64} {g : Nat → Int32} {r : Nat} (h : tCls d k s x g) (hr : tLea d s r) (b : Nat) : tBef d r b ↔ btL s b = true := by
  constructor
  · rintro ⟨h1, h2⟩
    cases e : btL s b
    · have := hr.2.2 b h1 e; omega
    · rfl
  · intro hb
    refine ⟨h.1 b hb, ?_⟩
    have hne : b ≠ r := by intro e; subst e; rw [hr.2.1] at hb; cases hb
    by_cases e : tBef d b r
    · have := h.2.1 b r hb e; rw [hr.2.1] at this; cases this
    · unfold tBef at e
      have : ¬ (tCo d r < tCo d b ∨ (tCo d r = tCo d b ∧ r < b)) := fun h9 => e ⟨hr.1, h9⟩
      omega
theorem tCls.grow {d : NtD} {k : Int} {s x : Int64} {g : Nat → Int32} {r : Nat} (h : tCls d k s x g) (hr : tLea d s r) (hr40 : r < 40) : (∀ b, btL (s ||| ((1 : Int64) <<< ((nI r).toInt64 &&& 63))) b = true → (b : Int) < d.1) ∧ (∀ b c, btL (s ||| ((1 : Int64) <<< ((nI r).toInt64 &&& 63))) b = true → tBef d b c → btL (s ||| ((1 : Int64) <<< ((nI r).toInt64 &&& 63))) c = true) ∧ ((cntB (btL (s ||| ((1 : Int64) <<< ((nI r).toInt64 &&& 63)))) d.1.toNat : Nat) : Int) = k + 1 := by
  have hs : ∀ b, btL (s ||| ((1 : Int64) <<< ((nI r).toInt64 &&& 63))) b = true ↔ (btL s b = true ∨ b = r) := fun b => btL_set hr40
  refine ⟨fun b hb => ?_, fun b c hb hc => ?_, ?_⟩
  · rcases (hs b).mp hb with h1 | rfl
    · exact h.1 b h1
    · exact hr.1
  · rcases (hs b).mp hb with h1 | rfl
    · exact (hs c).mpr (Or.inl (h.2.1 b c h1 hc))
    · exact (hs c).mpr (Or.inl ((h.before hr c).mp hc))
  · rw [cntB_set (f := btL s) (a := r) (by have := hr.1; omega) hr.2.1 hs]
    have := h.2.2.1
    omega
theorem tCls.same {d : NtD} {k : Int} {s x : Int64} {g : Nat → Int32} {r : Nat} (h : tCls d k s x g) (hv : tVal d) (hr : tLea d s r) (hr40 : r < 40) (he : (g (tFr d r)).toInt = (g (tTo d r)).toInt) : tCls d (k + 1) (s ||| ((1 : Int64) <<< ((nI r).toInt64 &&& 63))) x g := by
  have hs : ∀ b, btL (s ||| ((1 : Int64) <<< ((nI r).toInt64 &&& 63))) b = true ↔ (btL s b = true ∨ b = r) := fun b => btL_set hr40
  obtain ⟨g1, g2, g3⟩ := h.grow hr hr40
  refine ⟨g1, g2, g3, h.2.2.2.1.skip hs (fun b hb => ⟨(hv b (g1 b hb)).1, (hv b (g1 b hb)).2.1⟩) he, fun j => ?_⟩
  rw [hs j, h.2.2.2.2 j]
  constructor
  · rintro ⟨h1, h2⟩; exact ⟨Or.inl h1, h2⟩
  · rintro ⟨h1 | rfl, h2⟩
    · exact ⟨h1, h2⟩
    · exact absurd (((h.2.2.2.1 _ _ (hv j hr.1).1 (hv j hr.1).2.1).mp he).mono (fun b hb => (h.before hr b).mpr hb)) h2
theorem tCls.take {d : NtD} {k : Int} {s x : Int64} {g g' : Nat → Int32} {r : Nat} (h : tCls d k s x g) (hv : tVal d) (hr : tLea d s r) (hr40 : r < 40) (he : (g (tFr d r)).toInt ≠ (g (tTo d r)).toInt) (hg : ∀ i, i < 12 → (g' i).toInt = if (g i).toInt = (g (tFr d r)).toInt then (g (tTo d r)).toInt else (g i).toInt) : tCls d (k + 1) (s ||| ((1 : Int64) <<< ((nI r).toInt64 &&& 63))) (x ||| ((1 : Int64) <<< ((nI r).toInt64 &&& 63))) g' := by
  have hs : ∀ b, btL (s ||| ((1 : Int64) <<< ((nI r).toInt64 &&& 63))) b = true ↔ (btL s b = true ∨ b = r) := fun b => btL_set hr40
  obtain ⟨g1, g2, g3⟩ := h.grow hr hr40
  refine ⟨g1, g2, g3, h.2.2.2.1.join hs (fun b hb => ⟨(hv b (g1 b hb)).1, (hv b (g1 b hb)).2.1⟩) hg (Or.inl ⟨rfl, rfl⟩), fun j => ?_⟩
  rw [btL_set hr40, hs j, h.2.2.2.2 j]
  constructor
  · rintro (⟨h1, h2⟩ | rfl)
    · exact ⟨Or.inl h1, h2⟩
    · exact ⟨Or.inr rfl, fun c9 => he ((h.2.2.2.1 _ _ (hv j hr.1).1 (hv j hr.1).2.1).mpr (c9.mono (fun b hb => (h.before hr b).mp hb)))⟩
  · rintro ⟨h1 | rfl, h2⟩
    · exact Or.inl ⟨h1, h2⟩
    · exact Or.inr rfl
theorem tCls.done {d : NtD} {k : Int} {s x : Int64} {g : Nat → Int32} (h : tCls d k s x g) (hk : k = d.1) : tAll d x := by
  intro j
  rw [h.2.2.2.2 j]
  constructor
  · rintro ⟨h1, h2⟩; exact ⟨h.1 j h1, h2⟩
  · rintro ⟨h1, h2⟩; exact ⟨cntB_all (f := btL s) (n := d.1.toNat) (by have := h.2.2.1; omega) j (by omega), h2⟩
theorem ArO.val {f95 f96 f97 f98 : Nat → Int32} {ar : Nat} (h : ArO f95 f96 f97 f98 ar) : tVal (((ar : Nat) : Int), f95, f96, f97, f98) := by
  intro b hb
  have hb2 : b < ar := by have h9 : ((b : Nat) : Int) < ((ar : Nat) : Int) := hb; omega
  obtain ⟨x, y, hx, hy, _, e1, e2, _, h3, h4⟩ := h b hb2
  refine ⟨?_, ?_, h3, h4⟩
  · show (f95 b).toInt.toNat < 12
    rw [e1, nI_toInt (by omega)]; omega
  · show (f96 b).toInt.toNat < 12
    rw [e2, nI_toInt (by omega)]; omega
theorem tRel.step {j3 j2 : Nat → Int32} {n5 i5 : Nat} {u w : Int} {x : Int32} (h : ∀ i, i < 12 → (j3 i).toInt = if i < n5 ∧ (j2 i).toInt = w then u else (j2 i).toInt) (hn : n5 < 12) (hi : i5 = n5) (hx : x.toInt = if (j3 n5).toInt = w then u else (j3 n5).toInt) : ∀ i, i < 12 → (upd j3 i5 x i).toInt = if i < n5 + 1 ∧ (j2 i).toInt = w then u else (j2 i).toInt := by
  subst hi
  intro i hi
  unfold upd
  by_cases e : i = i5
  · rw [if_pos e, hx]
    have e8 := h i5 hn
    rw [if_neg (fun h9 => absurd h9.1 (Nat.lt_irrefl _))] at e8
    rw [e8, e]
    by_cases h8 : (j2 i5).toInt = w
    · rw [if_pos h8, if_pos ⟨by omega, h8⟩]
    · rw [if_neg h8, if_neg (fun h9 => h8 h9.2)]
  · rw [if_neg e, h i hi]
    by_cases h8 : i < i5 ∧ (j2 i).toInt = w
    · rw [if_pos h8, if_pos ⟨by omega, h8.2⟩]
    · rw [if_neg h8, if_neg (fun h9 => h8 ⟨by omega, h9.2⟩)]
theorem tRel.done {j3 j2 : Nat → Int32} {n5 : Nat} {u w : Int} (h : ∀ i, i < 12 → (j3 i).toInt = if i < n5 ∧ (j2 i).toInt = w then u else (j2 i).toInt) (hn : 12 ≤ n5) : ∀ i, i < 12 → (j3 i).toInt = if (j2 i).toInt = w then u else (j2 i).toInt := by
  intro i hi
  rw [h i hi]
  by_cases h8 : (j2 i).toInt = w
  · rw [if_pos h8, if_pos ⟨by omega, h8⟩]
  · rw [if_neg h8, if_neg (fun h9 => h8 h9.2)]
theorem tRel.start {j2 : Nat → Int32} {u w : Int} : ∀ i, i < 12 → (j2 i).toInt = if i < 0 ∧ (j2 i).toInt = w then u else (j2 i).toInt := fun i _ => by rw [if_neg (fun h9 => absurd h9.1 (Nat.not_lt_zero i))]
theorem nI_tz {k : Int32} (h : 0 ≤ k.toInt) : nI k.toInt.toNat = k := by
  apply Int32.toInt_inj.mp
  rw [nI_toInt (by have := Int32.toInt_lt k; omega)]
  omega
theorem shl_and1 {x y : Int64} {k : Int32} (hy : y = x >>> (k.toInt64 &&& 63)) (h0 : 0 ≤ k.toInt) (h1 : k.toInt < 64) : (btL x k.toInt.toNat = true ∧ (y &&& 1).toInt = 1) ∨ (btL x k.toInt.toNat = false ∧ (y &&& 1).toInt = 0) := by
  have e := btL_shr (x := x) (k := k.toInt.toNat) (by omega)
  rw [nI_tz h0, ← hy] at e
  rw [← e]
  exact btL_and1 y
theorem seL {s v w : Int64} {k : Int32} (h0 : 0 ≤ k.toInt) (hv : v = (1 : Int64) <<< (k.toInt64 &&& 63)) (hw : w = s ||| v) : w = s ||| ((1 : Int64) <<< ((nI k.toInt.toNat).toInt64 &&& 63)) := by
  rw [nI_tz h0, hw, hv]
theorem tRel.yes {f : Nat → Int32} {i : Nat} {x : Int32} {g k : Int} (hx : x = f i) (h : x.toInt = g) : k = if (f i).toInt = g then k else (f i).toInt := by
  rw [if_pos (by rw [← hx]; exact h)]
theorem tRel.no {f : Nat → Int32} {i : Nat} {x y : Int32} {g k : Int} (hx : x = f i) (h : ¬ x.toInt = g) (hy : y = f i) : y.toInt = if (f i).toInt = g then k else (f i).toInt := by
  rw [if_neg (by rw [← hx]; exact h), hy]
theorem tIni.step {g g' : Nat → Int32} {i : Int32} (h : ∀ q : Nat, (q : Int) < i.toInt → (g q).toInt = (q : Int)) (h0 : 0 ≤ i.toInt) (hg : g' = upd g i.toNatClampNeg i) : ∀ q : Nat, (q : Int) < i.toInt + 1 → (g' q).toInt = (q : Int) := by
  subst hg
  intro q hq
  unfold upd
  have e0 : i.toNatClampNeg = i.toInt.toNat := rfl
  by_cases e : q = i.toNatClampNeg
  · rw [if_pos e]; omega
  · rw [if_neg e]; exact h q (by omega)
/-- the cheapest so far -/
def tFnd (d : NtD) (s : Int64) (i f : Int) : Prop := (f = -1 ∧ ∀ b : Nat, (b : Int) < i → btL s b = true) ∨ (0 ≤ f ∧ f < i ∧ btL s f.toNat = false ∧ ∀ b : Nat, (b : Int) < i → btL s b = false → tCo d f.toNat < tCo d b ∨ (tCo d f.toNat = tCo d b ∧ f.toNat ≤ b))
theorem tFnd.start {d : NtD} {s : Int64} {i f : Int} (hi : i = 0) (hf : f = -1) : tFnd d s i f := Or.inl ⟨hf, fun b hb => by omega⟩
theorem tFnd.seen {d : NtD} {s : Int64} {i f : Int} (h : tFnd d s i f) (h0 : 0 ≤ i) (hb : btL s i.toNat = true) : tFnd d s (i + 1) f := by
  rcases h with ⟨h1, h2⟩ | ⟨h1, h2, h3, h4⟩
  · refine Or.inl ⟨h1, fun b hb2 => ?_⟩
    by_cases e : b = i.toNat
    · rw [e]; exact hb
    · exact h2 b (by omega)
  · refine Or.inr ⟨h1, by omega, h3, fun b hb2 hb3 => ?_⟩
    by_cases e : b = i.toNat
    · rw [e, hb] at hb3; cases hb3
    · exact h4 b (by omega) hb3
theorem tFnd.first {d : NtD} {s : Int64} {i f : Int} (h : tFnd d s i f) (h0 : 0 ≤ i) (hb : btL s i.toNat = false) (hf : f = -1) : tFnd d s (i + 1) i := by
  rcases h with ⟨h1, h2⟩ | ⟨h1, h2, h3, h4⟩
  · refine Or.inr ⟨h0, by omega, hb, fun b hb2 hb3 => ?_⟩
    by_cases e : b = i.toNat
    · exact Or.inr ⟨by rw [e], by omega⟩
    · rw [h2 b (by omega)] at hb3; cases hb3
  · omega
theorem tFnd.less {d : NtD} {s : Int64} {i f : Int} (h : tFnd d s i f) (h0 : 0 ≤ i) (hb : btL s i.toNat = false) (hf : ¬ f = -1) (hc : tCo d i.toNat < tCo d f.toNat) : tFnd d s (i + 1) i := by
  rcases h with ⟨h1, h2⟩ | ⟨h1, h2, h3, h4⟩
  · exact absurd h1 hf
  · refine Or.inr ⟨h0, by omega, hb, fun b hb2 hb3 => ?_⟩
    by_cases e : b = i.toNat
    · exact Or.inr ⟨by rw [e], by omega⟩
    · have := h4 b (by omega) hb3; omega
theorem tFnd.more {d : NtD} {s : Int64} {i f : Int} (h : tFnd d s i f) (h0 : 0 ≤ i) (hf : ¬ f = -1) (hc : ¬ tCo d i.toNat < tCo d f.toNat) : tFnd d s (i + 1) f := by
  rcases h with ⟨h1, h2⟩ | ⟨h1, h2, h3, h4⟩
  · exact absurd h1 hf
  · refine Or.inr ⟨h1, by omega, h3, fun b hb2 hb3 => ?_⟩
    by_cases e : b = i.toNat
    · rw [e]; omega
    · exact h4 b (by omega) hb3
theorem tFnd.done {d : NtD} {s : Int64} {i f r : Int} (h : tFnd d s i f) (hi : d.1 ≤ i) (hi2 : i ≤ d.1) (hr : r = 0 ∨ r = f) (hr2 : f ≤ r) (hs : ∃ b : Nat, (b : Int) < d.1 ∧ btL s b = false) : tLea d s r.toNat := by
  have e : i = d.1 := by omega
  subst e
  rcases h with ⟨h1, h2⟩ | ⟨h1, h2, h3, h4⟩
  · obtain ⟨b, hb, hb2⟩ := hs
    rw [h2 b hb] at hb2; cases hb2
  · have e2 : r = f := by omega
    subst e2
    exact ⟨by omega, h3, h4⟩
theorem tVal.z : tVal ntZ := fun b hb => by
  have h9 : ((b : Nat) : Int) < 0 := hb
  omega

/-! the class's tree: what its nodes speak of -/
def twL (T : Nat → Int32) (i : Int) : Int := (T i.toNat).toInt
theorem tw_i {T : Nat → Int32} {E : Int} (h1 : 0 ≤ E) (h2 : E ≤ 2147483647) : (T (iI E).toNatClampNeg).toInt = twL T E := by
  unfold twL
  have e : (iI E).toNatClampNeg = E.toNat := by show (iI E).toInt.toNat = _; rw [iI_t (by omega) h2]
  rw [e]
theorem tw_i0 {T : Nat → Int32} {E : Int} (h1 : 0 ≤ E) (h2 : E ≤ 2147483647) : (T (iI (E + 0)).toNatClampNeg).toInt = twL T E := by rw [Int.add_zero]; exact tw_i h1 h2
theorem tw_r {T : Nat → Int32} {x : Int32} : (T x.toNatClampNeg).toInt = twL T x.toInt := rfl
theorem Vld {V : Int → Nat → Nat → Prop} {a b : Int} {k L : Nat} (h : a = b) (hv : V b k L) : V a k L := h ▸ hv
theorem tnx {V : Int → Nat → Nat → Prop} {a b : Int} {k L : Nat} (h : a = b) (hv : b = 0 ∨ V b k L) : a = 0 ∨ V a k L := h ▸ hv
/-- a set's name -/
def StL (fk fw : Nat → Int32) (nm i : Int) : Prop := 0 ≤ i ∧ i < nm ∧ twL fk i = 1 ∧ 1 ≤ twL fw i ∧ twL fw i ≤ 12
/-- the members of two places -/
def MeV (fw : Nat → Int32) (a b : Int) : Int := (if a = -1 then 1 else twL fw a) * (if b = -1 then 1 else twL fw b)
/-- the members of a name's places -/
def MeL (fo fw : Nat → Int32) (i : Int) : Int := MeV fw (twL fo i) (twL fw i)
/-- the names -/
def NmL (nm : Int32) (fk fo fw fb : Nat → Int32) (np : Nat) : Prop := ∀ i : Int, 0 ≤ i → i < nm.toInt → (twL fk i = 1 → 1 ≤ twL fw i ∧ twL fw i ≤ 12) ∧
  (twL fk i ≠ 1 → (twL fo i = -1 ∨ StL fk fw nm.toInt (twL fo i)) ∧ (twL fw i = -1 ∨ StL fk fw nm.toInt (twL fw i))) ∧ (twL fk i = 2 → twL fb i + MeL fo fw i ≤ (np : Int)) ∧ (twL fk i ≠ 1 → twL fk i ≠ 2 → twL fk i ≠ 5 → twL fb i + MeL fo fw i ≤ 8)
def NdL (V : Int → Nat → Nat → Prop) (T fk fo fw : Nat → Int32) (nm n : Int) (L k : Nat) : Prop := (k = 1 ∧ V (twL T (n + 3)) 2 L) ∨ (k = 2 ∧ V (twL T (n + 3)) 3 (L + 1)) ∨ (k = 3 ∧ (twL T n = 3 ∨ (twL T n = 4 ∧ 0 ≤ (twL T (n + 3)) ∧ (twL T (n + 3)) ≤ 63) ∨ (twL T n = 5 ∧ 0 ≤ (twL T (n + 3)) ∧ (twL T (n + 3)) < nm ∧ (twL fk (twL T (n + 3)) ≠ 1 ∧ twL fk (twL T (n + 3)) ≠ 5) ∧ (twL fo (twL T (n + 3)) ≠ -1 → V (twL T (n + 4)) 1 (L + 1) ∧ (twL fw (twL T (n + 3)) ≠ -1 → V (twL T (n + 5)) 1 (L + 1)))) ∨ (twL T n = 6 ∧ V (twL T (n + 3)) 3 (L + 1)) ∨ (twL T n = 7 ∧ V (twL T (n + 3)) 1 (L + 1)) ∨ (twL T n = 8 ∧ V (twL T (n + 3)) 9 L ∧ ((twL T (n + 4)) = 0 ∨ V (twL T (n + 4)) 10 (L + 1)) ∧ V (twL T (n + 5)) 3 (L + 1)))) ∨ (k = 9 ∧ StL fk fw nm (twL T (n + 3)) ∧ 0 ≤ (twL T (n + 5)) ∧ (twL T (n + 5)) ≤ 63 ∧ ((twL T (n + 4)) = -1 ∨ (StL fk fw nm (twL T (n + 4)) ∧ (twL T (n + 5)) ≤ 62))) ∨ (k = 10 ∧ V (twL T (n + 3)) 11 L) ∨ (k = 11 ∧ V (twL T (n + 3)) 12 L) ∨ (k = 12 ∧ ((twL T n = 12 ∧ V (twL T (n + 3)) 12 (L + 1)) ∨ (twL T n = 13 ∧ V (twL T (n + 3)) 10 (L + 1)) ∨ (twL T n = 14 ∧ V (twL T (n + 3)) 1 (L + 1) ∧ V (twL T (n + 4)) 1 (L + 1)))) ∨ (k = 14 ∧ V (twL T (n + 3)) 1 (L + 1) ∧ V (twL T (n + 4)) 1 (L + 1))
/-- the nodes of V, from lo to u, are whole -/
def TrL (V : Int → Nat → Nat → Prop) (T fk fo fw : Nat → Int32) (nm lo u : Int) : Prop := ∀ (n : Int) (k L : Nat), V n k L → (lo ≤ n ∧ 7 ≤ n ∧ n + 7 ≤ u ∧ L ≤ 25 ∧ n % 7 = 0) ∧ (twL T (n + 6) = 0 ∨ V (twL T (n + 6)) k L) ∧ NdL V T fk fo fw nm n L k
section
variable {V : Int → Nat → Nat → Prop} {T fk fo fw : Nat → Int32} {nm lo u n : Int} {L k : Nat}
theorem TrL.rng (h : TrL V T fk fo fw nm lo u) (hn : V n k L) : lo ≤ n ∧ 7 ≤ n ∧ n + 7 ≤ u ∧ L ≤ 25 ∧ n % 7 = 0 := (h n k L hn).1
theorem TrL.nx (h : TrL V T fk fo fw nm lo u) (hn : V n k L) : twL T (n + 6) = 0 ∨ V (twL T (n + 6)) k L := (h n k L hn).2.1
theorem NdL.e1 (hd : NdL V T fk fo fw nm n L 1) : V (twL T (n + 3)) 2 L := by
  rcases hd with ⟨h, g⟩ | ⟨h, g⟩ | ⟨h, g⟩ | ⟨h, g⟩ | ⟨h, g⟩ | ⟨h, g⟩ | ⟨h, g⟩ | ⟨h, g⟩ <;> first | exact absurd h (by decide) | exact g
theorem NdL.e2 (hd : NdL V T fk fo fw nm n L 2) : V (twL T (n + 3)) 3 (L + 1) := by
  rcases hd with ⟨h, g⟩ | ⟨h, g⟩ | ⟨h, g⟩ | ⟨h, g⟩ | ⟨h, g⟩ | ⟨h, g⟩ | ⟨h, g⟩ | ⟨h, g⟩ <;> first | exact absurd h (by decide) | exact g
theorem NdL.e3 (hd : NdL V T fk fo fw nm n L 3) : (twL T n = 3 ∨ (twL T n = 4 ∧ 0 ≤ (twL T (n + 3)) ∧ (twL T (n + 3)) ≤ 63) ∨ (twL T n = 5 ∧ 0 ≤ (twL T (n + 3)) ∧ (twL T (n + 3)) < nm ∧ (twL fk (twL T (n + 3)) ≠ 1 ∧ twL fk (twL T (n + 3)) ≠ 5) ∧ (twL fo (twL T (n + 3)) ≠ -1 → V (twL T (n + 4)) 1 (L + 1) ∧ (twL fw (twL T (n + 3)) ≠ -1 → V (twL T (n + 5)) 1 (L + 1)))) ∨ (twL T n = 6 ∧ V (twL T (n + 3)) 3 (L + 1)) ∨ (twL T n = 7 ∧ V (twL T (n + 3)) 1 (L + 1)) ∨ (twL T n = 8 ∧ V (twL T (n + 3)) 9 L ∧ ((twL T (n + 4)) = 0 ∨ V (twL T (n + 4)) 10 (L + 1)) ∧ V (twL T (n + 5)) 3 (L + 1))) := by
  rcases hd with ⟨h, g⟩ | ⟨h, g⟩ | ⟨h, g⟩ | ⟨h, g⟩ | ⟨h, g⟩ | ⟨h, g⟩ | ⟨h, g⟩ | ⟨h, g⟩ <;> first | exact absurd h (by decide) | exact g
theorem NdL.e9 (hd : NdL V T fk fo fw nm n L 9) : StL fk fw nm (twL T (n + 3)) ∧ 0 ≤ (twL T (n + 5)) ∧ (twL T (n + 5)) ≤ 63 ∧ ((twL T (n + 4)) = -1 ∨ (StL fk fw nm (twL T (n + 4)) ∧ (twL T (n + 5)) ≤ 62)) := by
  rcases hd with ⟨h, g⟩ | ⟨h, g⟩ | ⟨h, g⟩ | ⟨h, g⟩ | ⟨h, g⟩ | ⟨h, g⟩ | ⟨h, g⟩ | ⟨h, g⟩ <;> first | exact absurd h (by decide) | exact g
theorem NdL.e10 (hd : NdL V T fk fo fw nm n L 10) : V (twL T (n + 3)) 11 L := by
  rcases hd with ⟨h, g⟩ | ⟨h, g⟩ | ⟨h, g⟩ | ⟨h, g⟩ | ⟨h, g⟩ | ⟨h, g⟩ | ⟨h, g⟩ | ⟨h, g⟩ <;> first | exact absurd h (by decide) | exact g
theorem NdL.e11 (hd : NdL V T fk fo fw nm n L 11) : V (twL T (n + 3)) 12 L := by
  rcases hd with ⟨h, g⟩ | ⟨h, g⟩ | ⟨h, g⟩ | ⟨h, g⟩ | ⟨h, g⟩ | ⟨h, g⟩ | ⟨h, g⟩ | ⟨h, g⟩ <;> first | exact absurd h (by decide) | exact g
theorem NdL.e12 (hd : NdL V T fk fo fw nm n L 12) : ((twL T n = 12 ∧ V (twL T (n + 3)) 12 (L + 1)) ∨ (twL T n = 13 ∧ V (twL T (n + 3)) 10 (L + 1)) ∨ (twL T n = 14 ∧ V (twL T (n + 3)) 1 (L + 1) ∧ V (twL T (n + 4)) 1 (L + 1))) := by
  rcases hd with ⟨h, g⟩ | ⟨h, g⟩ | ⟨h, g⟩ | ⟨h, g⟩ | ⟨h, g⟩ | ⟨h, g⟩ | ⟨h, g⟩ | ⟨h, g⟩ <;> first | exact absurd h (by decide) | exact g
theorem NdL.e14 (hd : NdL V T fk fo fw nm n L 14) : V (twL T (n + 3)) 1 (L + 1) ∧ V (twL T (n + 4)) 1 (L + 1) := by
  rcases hd with ⟨h, g⟩ | ⟨h, g⟩ | ⟨h, g⟩ | ⟨h, g⟩ | ⟨h, g⟩ | ⟨h, g⟩ | ⟨h, g⟩ | ⟨h, g⟩ <;> first | exact absurd h (by decide) | exact g
theorem TrL.c1 (h : TrL V T fk fo fw nm lo u) (hn : V n 1 L) : V (twL T (n + 3)) 2 L := (h n 1 L hn).2.2.e1
theorem TrL.c2 (h : TrL V T fk fo fw nm lo u) (hn : V n 2 L) : V (twL T (n + 3)) 3 (L + 1) := (h n 2 L hn).2.2.e2
theorem TrL.c9 (h : TrL V T fk fo fw nm lo u) (hn : V n 9 L) : StL fk fw nm (twL T (n + 3)) ∧ 0 ≤ (twL T (n + 5)) ∧ (twL T (n + 5)) ≤ 63 ∧ ((twL T (n + 4)) = -1 ∨ (StL fk fw nm (twL T (n + 4)) ∧ (twL T (n + 5)) ≤ 62)) := (h n 9 L hn).2.2.e9
theorem TrL.c10 (h : TrL V T fk fo fw nm lo u) (hn : V n 10 L) : V (twL T (n + 3)) 11 L := (h n 10 L hn).2.2.e10
theorem TrL.c11 (h : TrL V T fk fo fw nm lo u) (hn : V n 11 L) : V (twL T (n + 3)) 12 L := (h n 11 L hn).2.2.e11
theorem TrL.c14 (h : TrL V T fk fo fw nm lo u) (hn : V n 14 L) : V (twL T (n + 3)) 1 (L + 1) ∧ V (twL T (n + 4)) 1 (L + 1) := (h n 14 L hn).2.2.e14
theorem TrL.k3 (h : TrL V T fk fo fw nm lo u) (hn : V n 3 L) : 3 ≤ twL T n ∧ twL T n ≤ 8 := by
  rcases (h n 3 L hn).2.2.e3 with h | h | h | h | h | h <;> omega
theorem TrL.c3b (h : TrL V T fk fo fw nm lo u) (hn : V n 3 L) (hk : twL T n = 4) : 0 ≤ (twL T (n + 3)) ∧ (twL T (n + 3)) ≤ 63 := by
  rcases (h n 3 L hn).2.2.e3 with h | h | h | h | h | h <;> first | exact h.2 | (exfalso; omega)
theorem TrL.c3n (h : TrL V T fk fo fw nm lo u) (hn : V n 3 L) (hk : twL T n = 5) : 0 ≤ (twL T (n + 3)) ∧ (twL T (n + 3)) < nm ∧ (twL fk (twL T (n + 3)) ≠ 1 ∧ twL fk (twL T (n + 3)) ≠ 5) ∧ (twL fo (twL T (n + 3)) ≠ -1 → V (twL T (n + 4)) 1 (L + 1) ∧ (twL fw (twL T (n + 3)) ≠ -1 → V (twL T (n + 5)) 1 (L + 1))) := by
  rcases (h n 3 L hn).2.2.e3 with h | h | h | h | h | h <;> first | exact h.2 | (exfalso; omega)
theorem TrL.c3t (h : TrL V T fk fo fw nm lo u) (hn : V n 3 L) (hk : twL T n = 6) : V (twL T (n + 3)) 3 (L + 1) := by
  rcases (h n 3 L hn).2.2.e3 with h | h | h | h | h | h <;> first | exact h.2 | (exfalso; omega)
theorem TrL.c3g (h : TrL V T fk fo fw nm lo u) (hn : V n 3 L) (hk : twL T n = 7) : V (twL T (n + 3)) 1 (L + 1) := by
  rcases (h n 3 L hn).2.2.e3 with h | h | h | h | h | h <;> first | exact h.2 | (exfalso; omega)
theorem TrL.c3s (h : TrL V T fk fo fw nm lo u) (hn : V n 3 L) (hk : twL T n = 8) : V (twL T (n + 3)) 9 L ∧ ((twL T (n + 4)) = 0 ∨ V (twL T (n + 4)) 10 (L + 1)) ∧ V (twL T (n + 5)) 3 (L + 1) := by
  rcases (h n 3 L hn).2.2.e3 with h | h | h | h | h | h <;> first | exact h.2 | (exfalso; omega)
theorem TrL.c12n (h : TrL V T fk fo fw nm lo u) (hn : V n 12 L) (hk : twL T n = 12) : V (twL T (n + 3)) 12 (L + 1) := by
  rcases (h n 12 L hn).2.2.e12 with h | h | h <;> first | exact h.2 | (exfalso; omega)
theorem TrL.c12a (h : TrL V T fk fo fw nm lo u) (hn : V n 12 L) (hk : twL T n = 13) : V (twL T (n + 3)) 10 (L + 1) := by
  rcases (h n 12 L hn).2.2.e12 with h | h | h <;> first | exact h.2 | (exfalso; omega)
theorem TrL.c12c (h : TrL V T fk fo fw nm lo u) (hn : V n 12 L) (hk : ¬ twL T n = 12) (hk2 : ¬ twL T n = 13) : V (twL T (n + 3)) 1 (L + 1) ∧ V (twL T (n + 4)) 1 (L + 1) := by
  rcases (h n 12 L hn).2.2.e12 with h | h | h <;> first | exact h.2 | (exfalso; omega)
theorem TrL.more (h : TrL V T fk fo fw nm lo u) {u' : Int} (hu : u ≤ u') : TrL V T fk fo fw nm lo u' := fun n k L hn => ⟨by have := (h n k L hn).1; omega, (h n k L hn).2⟩
end
theorem goodIn_rec {c0 c : Cond} {G hd : List Cond} (h1 : ∀ w ∈ hd, w ∈ G) (hc : c ∈ G) (hg : G.all goodWord = true) : GoodIn (c0 :: G) (hd ++ (c :: G)) := fun w hw => by
  have hm : w ∈ G := by
    rcases List.mem_append.mp hw with h | h
    · exact h1 w h
    · rcases List.mem_cons.mp h with h | h
      · rw [h]; exact hc
      · exact h
  exact ⟨List.mem_cons_of_mem _ hm, good_of_word (List.all_eq_true.mp hg w hm)⟩
theorem MeV_12 {fw : Nat → Int32} {a : Int} (ha : a = -1 ∨ (1 ≤ twL fw a ∧ twL fw a ≤ 12)) : 1 ≤ (if a = -1 then 1 else twL fw a) ∧ (if a = -1 then 1 else twL fw a) ≤ 12 := by
  rcases ha with h | h
  · rw [if_pos h]; omega
  · by_cases h9 : a = -1
    · rw [if_pos h9]; omega
    · rw [if_neg h9]; exact h
theorem mul_12 {x y : Int} (hx : 1 ≤ x ∧ x ≤ 12) (hy : 1 ≤ y ∧ y ≤ 12) : 1 ≤ x * y ∧ x * y ≤ 144 := by
  have h1 : 1 * 1 ≤ x * y := Int.mul_le_mul hx.1 hy.1 (by omega) (by omega)
  have h2 : x * y ≤ 12 * 12 := Int.mul_le_mul hx.2 hy.2 (by omega) (by omega)
  omega
theorem StL.w {fk fw : Nat → Int32} {nm i : Int} (h : StL fk fw nm i) : 1 ≤ twL fw i ∧ twL fw i ≤ 12 := h.2.2.2
theorem StL.r {fk fw : Nat → Int32} {nm i : Int} (h : StL fk fw nm i) : 0 ≤ i ∧ i < nm := ⟨h.1, h.2.1⟩
theorem or_StL {fk fw : Nat → Int32} {nm i : Int} (h : i = -1 ∨ StL fk fw nm i) : i = -1 ∨ (1 ≤ twL fw i ∧ twL fw i ≤ 12) := h.imp id StL.w
theorem MeV_r {fk fw : Nat → Int32} {nm a b : Int} (ha : a = -1 ∨ StL fk fw nm a) (hb : b = -1 ∨ StL fk fw nm b) : 1 ≤ MeV fw a b ∧ MeV fw a b ≤ 144 := mul_12 (MeV_12 (or_StL ha)) (MeV_12 (or_StL hb))
theorem MeV_lt1 {fk fw : Nat → Int32} {nm a b r : Int} (ha : ¬ a = -1) (hb : b = -1) (hr : r < twL fw a) : r < MeV fw a b := by
  unfold MeV
  rw [if_neg ha, if_pos hb]; omega
theorem off_12 {a b w1 w2 : Int} (ha : 0 ≤ a) (ha2 : a < w1) (hb : 0 ≤ b) (hb2 : b < w2) (h1 : w1 ≤ 12) (h2 : w2 ≤ 12) : (0 ≤ a * w2 + b ∧ a * w2 + b ≤ 143) ∧ a * w2 + b < w1 * w2 := by
  have e1 : 0 ≤ a * w2 := Int.mul_nonneg ha (by omega)
  have e2 : (a + 1) * w2 ≤ w1 * w2 := Int.mul_le_mul_of_nonneg_right (by omega) (by omega)
  have e3 : (a + 1) * w2 = a * w2 + w2 := by rw [Int.add_mul, Int.one_mul]
  have e4 : w1 * w2 ≤ 12 * 12 := Int.mul_le_mul h1 h2 (by omega) (by omega)
  omega
theorem MeV_lt2 {fk fw : Nat → Int32} {nm a b r1 r2 : Int} (ha : ¬ a = -1) (hb : ¬ b = -1) (sa : a = -1 ∨ StL fk fw nm a) (sb : b = -1 ∨ StL fk fw nm b) (h0 : 0 ≤ r1) (hr : r1 < twL fw a) (h2 : 0 ≤ r2) (hr2 : r2 < twL fw b) : (0 ≤ r1 * twL fw b + r2 ∧ r1 * twL fw b + r2 ≤ 143) ∧ r1 * twL fw b + r2 < MeV fw a b := by
  unfold MeV
  rw [if_neg ha, if_neg hb]
  exact off_12 h0 hr h2 hr2 (sa.resolve_left ha).w.2 (sb.resolve_left hb).w.2
/-- a name more -/
def NaL (fk fw : Nat → Int32) (nm : Int) (np : Nat) (p2 p3 p4 p5 : Int) : Prop := (p2 = 1 → 1 ≤ p4 ∧ p4 ≤ 12) ∧ (p2 ≠ 1 → (p3 = -1 ∨ StL fk fw nm p3) ∧ (p4 = -1 ∨ StL fk fw nm p4)) ∧ (p2 = 2 → p5 + MeV fw p3 p4 ≤ (np : Int)) ∧ (p2 ≠ 1 → p2 ≠ 2 → p2 ≠ 5 → p5 + MeV fw p3 p4 ≤ 8)
theorem tw_upd {f : Nat → Int32} {n x : Int32} {i : Int} (h0 : 0 ≤ n.toInt) (hi : 0 ≤ i) : twL (upd f n.toNatClampNeg x) i = if i = n.toInt then x.toInt else twL f i := by
  unfold twL
  have e : n.toNatClampNeg = n.toInt.toNat := rfl
  unfold upd
  by_cases h : i = n.toInt
  · rw [if_pos h, if_pos (by rw [e, h])]
  · rw [if_neg h, if_neg (by rw [e]; omega)]
theorem tw_old {f : Nat → Int32} {n x : Int32} {i : Int} (h0 : 0 ≤ n.toInt) (hi : 0 ≤ i) (hn : i < n.toInt) : twL (upd f n.toNatClampNeg x) i = twL f i := by rw [tw_upd h0 hi, if_neg (by omega)]
theorem tw_new {f : Nat → Int32} {n x : Int32} (h0 : 0 ≤ n.toInt) : twL (upd f n.toNatClampNeg x) n.toInt = x.toInt := by rw [tw_upd h0 h0, if_pos rfl]
theorem StL.old {fk fw : Nat → Int32} {n x z : Int32} {i m : Int} (h : StL fk fw n.toInt i) (hm : n.toInt ≤ m) : StL (upd fk n.toNatClampNeg x) (upd fw n.toNatClampNeg z) m i := by
  obtain ⟨h1, h2, h3, h4⟩ := h
  refine ⟨h1, by omega, ?_, ?_⟩
  · rw [tw_old (by omega) h1 h2]; exact h3
  · rw [tw_old (by omega) h1 h2]; exact h4
theorem MeV.old {fk fw : Nat → Int32} {n z : Int32} {a b : Int} (ha : a = -1 ∨ StL fk fw n.toInt a) (hb : b = -1 ∨ StL fk fw n.toInt b) : MeV (upd fw n.toNatClampNeg z) a b = MeV fw a b := by
  unfold MeV
  have e : ∀ c : Int, (c = -1 ∨ StL fk fw n.toInt c) → (if c = -1 then 1 else twL (upd fw n.toNatClampNeg z) c) = (if c = -1 then 1 else twL fw c) := by
    intro c hc
    by_cases h9 : c = -1
    · rw [if_pos h9, if_pos h9]
    · have h8 := hc.resolve_left h9
      rw [if_neg h9, if_neg h9, tw_old (by have := h8.r; omega) h8.1 h8.2.1]
  rw [e a ha, e b hb]
theorem NmL.add {n n' p2 p3 p4 p5 : Int32} {fk fo fw fb fk' fo' fw' fb' : Nat → Int32} {np : Nat} (h : NmL n fk fo fw fb np) (h0 : 0 ≤ n.toInt) (hn : n'.toInt = n.toInt + 1) (hk : fk' = upd fk n.toNatClampNeg p2) (ho : fo' = upd fo n.toNatClampNeg p3) (hw : fw' = upd fw n.toNatClampNeg p4) (hb : fb' = upd fb n.toNatClampNeg p5) (ha : NaL fk fw n.toInt np p2.toInt p3.toInt p4.toInt p5.toInt) : NmL n' fk' fo' fw' fb' np := by
  intro i hi0 hi1
  subst hk; subst ho; subst hw; subst hb
  by_cases hi : i = n.toInt
  · subst hi
    unfold MeL
    rw [tw_new h0, tw_new h0, tw_new h0, tw_new h0]
    obtain ⟨a1, a2, a3, a4⟩ := ha
    refine ⟨a1, fun h9 => ?_, fun h9 => ?_, fun h9 h8 h7 => ?_⟩
    · exact ⟨(a2 h9).1.imp id (fun q => q.old (by omega)), (a2 h9).2.imp id (fun q => q.old (by omega))⟩
    · have h8 := a2 (by omega); rw [MeV.old h8.1 h8.2]; exact a3 h9
    · have h6 := a2 h9; rw [MeV.old h6.1 h6.2]; exact a4 h9 h8 h7
  · have hlt : i < n.toInt := by omega
    obtain ⟨a1, a2, a3, a4⟩ := h i hi0 hlt
    unfold MeL
    rw [tw_old h0 hi0 hlt, tw_old h0 hi0 hlt, tw_old h0 hi0 hlt, tw_old h0 hi0 hlt]
    refine ⟨a1, fun h9 => ?_, fun h9 => ?_, fun h9 h8 h7 => ?_⟩
    · exact ⟨(a2 h9).1.imp id (fun q => q.old (by omega)), (a2 h9).2.imp id (fun q => q.old (by omega))⟩
    · have h8 := a2 (by omega); rw [MeV.old h8.1 h8.2]; exact a3 h9
    · have h6 := a2 h9; rw [MeV.old h6.1 h6.2]; exact a4 h9 h8 h7
theorem NmL.nil {n : Int32} {fk fo fw fb : Nat → Int32} {np : Nat} (h : n.toInt ≤ 0) : NmL n fk fo fw fb np := fun i h1 h2 => absurd h2 (by omega)
theorem l2i_in {x : Int64} (h1 : -2147483648 ≤ x.toInt) (h2 : x.toInt ≤ 2147483647) : (x.toInt32).toInt = x.toInt := by
  rw [Int64.toInt_toInt32]
  exact Int.bmod_eq_of_le (by omega) (by omega)
theorem mul_64 {x y : Int} (hx : 0 ≤ x ∧ x ≤ 64) (hy : 1 ≤ y ∧ y ≤ 1999) : 0 ≤ x * y ∧ x * y ≤ 127936 := by
  have h1 : 0 ≤ x * y := Int.mul_nonneg hx.1 (by omega)
  have h2 : x * y ≤ 64 * 1999 := Int.mul_le_mul hx.2 hy.2 (by omega) (by omega)
  omega

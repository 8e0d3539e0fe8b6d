theorem lv28_few0 {f g : Nat → Int32} {m : Nat} (hf : Lm f 0 m) {d : Nat} (hd : 0 < d) : lv28 f 0 m < lv28 g 0 m + d * 2 ^ (28 * m) := by
  have h := lv28_lt hf
  have h2 := Nat.le_mul_of_pos_left (2 ^ (28 * m)) hd
  omega
theorem lN_ne0 {n : Nat} (h : 0 < n) (h2 : n < 2 ^ 62) : ¬ lN n = 0 := fun e => by
  have : (lN n).toInt = (0 : Int64).toInt := by rw [e]
  rw [pk_lT (by omega)] at this
  have e0 : (0 : Int64).toInt = 0 := by decide
  omega
theorem lv28_put0 {g : Nat → Int32} {i : Nat} {x : Int32} (hi : i < 2 ^ 31) : lv28 (upd g (nI i).toNatClampNeg x) 0 (i + 1) = lv28 g 0 i + x.toNatClampNeg * 2 ^ (28 * i) := by
  simp only [lv28]
  rw [lv28_congr (g := g) (p := 0) (fun q hq => by rw [upd_at hi, if_neg (by omega)]), Nat.zero_add, upd_at hi, if_pos rfl]
theorem lv28_one0 {f : Nat → Int32} {i d : Nat} (h : f i = nI d) (hd : d < 2 ^ 31) : lv28 f 0 (i + 1) = lv28 f 0 i + d * 2 ^ (28 * i) := by
  simp only [lv28]; rw [Nat.zero_add, h, nI_clamp hd]
theorem sh_step {f4 f2 : Nat → Int32} {i d b in0 : Nat} (hi : i < 2 ^ 31) (hd : d < 268435456) (hb : b ≤ 1) (e : f2 i = nI d) (h : lv28 f4 0 i + b * 2 ^ (28 * i) = 2 * lv28 f2 0 i + in0) :
    lv28 (upd f4 (nI i).toNatClampNeg (nI ((2 * d + b) % 268435456))) 0 (i + 1) + (2 * d + b) / 268435456 * 2 ^ (28 * (i + 1)) = 2 * lv28 f2 0 (i + 1) + in0 := by
  rw [lv28_put0 hi, nI_clamp (by omega), lv28_one0 e (by omega), show 28 * (i + 1) = 28 * i + 28 by omega, Nat.pow_add]
  have e3 : (2 * d + b) % 268435456 + 268435456 * ((2 * d + b) / 268435456) = 2 * d + b := Nat.mod_add_div _ _
  have e4 : (2 * d + b) % 268435456 * 2 ^ (28 * i) + (2 * d + b) / 268435456 * (2 ^ (28 * i) * 2 ^ 28) = (2 * d + b) * 2 ^ (28 * i) := by
    have : (2 * d + b) / 268435456 * (2 ^ (28 * i) * 2 ^ 28) = 268435456 * ((2 * d + b) / 268435456) * 2 ^ (28 * i) := by
      rw [Nat.mul_comm (2 ^ (28 * i)), ← Nat.mul_assoc, Nat.mul_comm ((2 * d + b) / 268435456)]
    rw [this, ← Nat.add_mul, e3]
  rw [Nat.add_mul, Nat.mul_assoc 2 d] at e4
  omega
theorem bw_step {g f4 f3 : Nat → Int32} {i : Nat} {x : Int32} {d4 d3 b b' L : Nat} (hi : i < 2 ^ 31) (h4 : f4 i = nI d4) (hd4 : d4 < 268435456) (hx : x.toInt = (d4 : Int) - d3 - b + 268435456 * b') (h0 : 0 ≤ x.toInt)
    (h : lv28 g 0 i + L = lv28 f4 0 i + b * 2 ^ (28 * i)) : lv28 (upd g (nI i).toNatClampNeg x) 0 (i + 1) + (L + d3 * 2 ^ (28 * i)) = lv28 f4 0 (i + 1) + b' * 2 ^ (28 * (i + 1)) := by
  obtain ⟨n, hn, rfl⟩ := of_toInt (x := x) (k := 2 ^ 31) h0 (by have := Int32.toInt_lt x; omega)
  rw [nI_toInt hn] at hx
  rw [lv28_put0 hi, nI_clamp hn, lv28_one0 h4 (by omega), show 28 * (i + 1) = 28 * i + 28 by omega, Nat.pow_add]
  have e : n + d3 + b = d4 + 268435456 * b' := by omega
  have e2 : (n + d3 + b) * 2 ^ (28 * i) = (d4 + 268435456 * b') * 2 ^ (28 * i) := by rw [e]
  rw [Nat.add_mul, Nat.add_mul, Nat.add_mul] at e2
  have e3 : b' * (2 ^ (28 * i) * 2 ^ 28) = 268435456 * b' * 2 ^ (28 * i) := by rw [Nat.mul_comm (2 ^ (28 * i)), ← Nat.mul_assoc, Nat.mul_comm b']
  omega
theorem lv28_top0 {f : Nat → Int32} {n : Nat} (h : lv28 f 0 (n + 1) < 2 ^ (28 * n)) (hL : Lm f 0 (n + 1)) : f n = 0 := by
  obtain ⟨d, hd, e⟩ := limb0N hL (q := n) (by omega)
  rw [lv28_one0 e (by omega)] at h
  rcases Nat.eq_zero_or_pos d with h0 | h0
  · rw [e, h0]; exact nI_0
  · have := Nat.le_mul_of_pos_left (2 ^ (28 * n)) h0
    omega
theorem lv28_skip0 {f : Nat → Int32} {n : Nat} (h : f n = 0) : lv28 f 0 (n + 1) = lv28 f 0 n := by
  simp only [lv28]; rw [Nat.zero_add, h]; simp
theorem divQ {A B Q R : Nat} (h : A = Q * B + R) (hR : R < B) : A / B = Q ∧ A % B = R := by
  subst h
  have h0 : 0 < B := by omega
  constructor
  · rw [Nat.mul_comm, Nat.mul_add_div h0, Nat.div_eq_of_lt hR, Nat.add_zero]
  · rw [Nat.mul_comm, Nat.mul_add_mod, Nat.mod_eq_of_lt hR]
theorem bitQ {P Q B R T i2 : Nat} (h : P = Q * B + R) (hT : T = 2 * P + i2) : T = 2 * Q * B + (2 * R + i2) := by
  subst h; rw [hT, Nat.mul_add, Nat.mul_assoc]; omega
theorem ttZ {t b : Nat} : t * 2 ^ (b + 1) = 2 * t * 2 ^ b := by
  rw [Nat.pow_succ, ← Nat.mul_assoc, Nat.mul_right_comm, Nat.mul_comm t 2]
theorem svQ {S : Int} {Q e t t' b kk : Nat} (h : S = ((Q * 2 ^ (28 * kk + (b + 1)) : Nat) : Int)) (he : e = 2 * Q + 1) (ht : t' = 2 * t + 1) :
    S + (((t' * 2 ^ b : Nat) : Int) - ((t * 2 ^ (b + 1) : Nat) : Int)) * ((2 ^ (28 * kk) : Nat) : Int) = ((e * 2 ^ (28 * kk + b) : Nat) : Int) := by
  subst he; subst ht
  have e1 : (2 * t + 1) * 2 ^ b = t * 2 ^ (b + 1) + 2 ^ b := by rw [Nat.add_mul, Nat.one_mul, ttZ]
  have e2 : (2 * Q + 1) * 2 ^ (28 * kk + b) = Q * 2 ^ (28 * kk + (b + 1)) + 2 ^ b * 2 ^ (28 * kk) := by
    rw [Nat.add_mul, Nat.one_mul, ← Nat.add_assoc, Nat.pow_succ, ← Nat.pow_add, Nat.add_comm b, ← Nat.mul_assoc, Nat.mul_right_comm Q, Nat.mul_comm Q 2]
  rw [e1, e2, Int.natCast_add (Q * _), ← h, Int.natCast_add, Int.natCast_mul (2 ^ b)]
  congr 2
  omega
theorem svZ {Q b kk : Nat} : Q * 2 ^ (28 * kk + (b + 1)) = 2 * Q * 2 ^ (28 * kk + b) := by
  rw [← Nat.add_assoc, Nat.pow_succ, ← Nat.mul_assoc, Nat.mul_right_comm, Nat.mul_comm Q 2]
theorem tt_lt {t b : Nat} (hb : b < 28) (h : t < 2 ^ (28 - (b + 1))) : 2 * t + 1 < 2 ^ (28 - b) := by
  rw [show 28 - b = 28 - (b + 1) + 1 by omega, Nat.pow_succ]; omega
theorem tt_all {t b : Nat} (hb : b ≤ 28) (h : t < 2 ^ (28 - b)) : t * 2 ^ b < 268435456 := by
  have h1 : t * 2 ^ b < 2 ^ (28 - b) * 2 ^ b := Nat.mul_lt_mul_of_pos_right h (Nat.two_pow_pos _)
  rw [← Nat.pow_add, show 28 - b + b = 28 by omega] at h1
  exact h1
theorem nu_of {G : Nat → Int32} {sn kk SS : Nat} {sg : Int} (hk : kk ≤ 22) (h1 : G (24 * sn + 1) = nI kk) (hL : Lm G (24 * sn + 2) kk) (ht : 0 < kk → G (24 * sn + 1 + kk) ≠ 0) (hv : lv28 G (24 * sn + 2) kk = SS) {qs : Int32} (hq : (kk = 0 ∧ G (24 * sn) = 0) ∨ (0 < kk ∧ G (24 * sn) = qs)) (hsg : (sg = 1 ∧ qs = 1) ∨ (sg = -1 ∧ qs = -1)) : Nu G sn (sg * (SS : Int)) := nu_fin hk h1 hL ht hv hq (fun _ => hsg)
theorem tdivE {x y : Int} (hy : y ≠ 0) : (if x * y < 0 then (-1 : Int) else 1) * ((x.natAbs / y.natAbs : Nat) : Int) = x.tdiv y := by
  rcases Int.lt_trichotomy x 0 with hx | hx | hx
  · obtain ⟨a, rfl⟩ : ∃ a : Nat, x = -(a : Int) := ⟨x.natAbs, by omega⟩
    rcases Int.lt_or_gt_of_ne hy with hy | hy
    · obtain ⟨b, rfl⟩ : ∃ b : Nat, y = -(b : Int) := ⟨y.natAbs, by omega⟩
      rw [if_neg (by have := Int.mul_pos_of_neg_of_neg hx hy; omega), Int.neg_tdiv_neg, Int.natAbs_neg, Int.natAbs_neg, Int.natAbs_natCast, Int.natAbs_natCast, Int.one_mul]; rfl
    · obtain ⟨b, rfl⟩ : ∃ b : Nat, y = (b : Int) := ⟨y.natAbs, by omega⟩
      rw [if_pos (Int.mul_neg_of_neg_of_pos hx hy), Int.neg_tdiv, Int.natAbs_neg, Int.natAbs_natCast, Int.natAbs_natCast]
      have : (a : Int).tdiv (b : Int) = ((a / b : Nat) : Int) := rfl
      rw [this]; omega
  · subst hx; simp
  · obtain ⟨a, rfl⟩ : ∃ a : Nat, x = (a : Int) := ⟨x.natAbs, by omega⟩
    rcases Int.lt_or_gt_of_ne hy with hy | hy
    · obtain ⟨b, rfl⟩ : ∃ b : Nat, y = -(b : Int) := ⟨y.natAbs, by omega⟩
      rw [if_pos (Int.mul_neg_of_pos_of_neg hx hy), Int.tdiv_neg, Int.natAbs_neg, Int.natAbs_natCast, Int.natAbs_natCast]
      have : (a : Int).tdiv (b : Int) = ((a / b : Nat) : Int) := rfl
      rw [this]; omega
    · obtain ⟨b, rfl⟩ : ∃ b : Nat, y = (b : Int) := ⟨y.natAbs, by omega⟩
      rw [if_neg (by have := Int.mul_pos hx hy; omega), Int.natAbs_natCast, Int.natAbs_natCast, Int.one_mul]; rfl
theorem tmodE {x y : Int} : (if x < 0 then (-1 : Int) else 1) * ((x.natAbs % y.natAbs : Nat) : Int) = x.tmod y := by
  have h : ((x.natAbs % y.natAbs : Nat) : Int) = (x.tmod y).natAbs := by rw [Int.natAbs_tmod]
  by_cases hx : x < 0
  · rw [if_pos hx, h]
    have : x.tmod y ≤ 0 := by
      obtain ⟨a, rfl⟩ : ∃ a : Nat, x = -(a : Int) := ⟨x.natAbs, by omega⟩
      rw [Int.neg_tmod]; have := Int.tmod_nonneg (a := (a : Int)) y (by omega); omega
    omega
  · rw [if_neg hx, h]
    have := Int.tmod_nonneg (a := x) y (by omega)
    omega
theorem lv28_zero {f : Nat → Int32} {o n : Nat} (h : ∀ q, q < n → f (o + q) = 0) : lv28 f o n = 0 := by
  induction n with
  | zero => rfl
  | succ n ih => simp only [lv28]; rw [ih (fun q hq => h q (by omega)), h n (by omega)]; simp
theorem limbQ {P Q d r k : Nat} (h : P = Q * d + r) : k + 268435456 * P = (Q * 268435456 + (r * 268435456 + k) / d) * d + (r * 268435456 + k) % d := by
  have e := Nat.div_add_mod (r * 268435456 + k) d
  rw [Nat.add_mul, Nat.mul_comm ((r * 268435456 + k) / d) d, Nat.add_assoc, e, h, Nat.mul_add, Nat.mul_right_comm Q, Nat.mul_comm (Q * d)]
  omega
theorem svL {S : Int} {Q x kk : Nat} (h : S = ((Q * 2 ^ (28 * (kk + 1)) : Nat) : Int)) : S + ((x : Int) - 0) * ((2 ^ (28 * kk) : Nat) : Int) = (((Q * 268435456 + x) * 2 ^ (28 * kk) : Nat) : Int) := by
  have e : Q * 2 ^ (28 * (kk + 1)) = Q * 268435456 * 2 ^ (28 * kk) := by
    rw [show 28 * (kk + 1) = 28 + 28 * kk by omega, Nat.pow_add, ← Nat.mul_assoc]
  rw [h, e, Int.sub_zero, ← Int.natCast_mul, ← Int.natCast_add, ← Nat.add_mul]
theorem vdiv_lt {r d k : Nat} (h : r < d) (hk : k < 268435456) : (r * 268435456 + k) / d < 268435456 := by
  rw [Nat.div_lt_iff_lt_mul (by omega)]
  have : (r + 1) * 268435456 ≤ d * 268435456 := Nat.mul_le_mul_right _ h
  rw [Nat.add_mul] at this
  rw [Nat.mul_comm]; omega
theorem noCarry {f : Nat → Int32} {n b R B i0 : Nat} (h : lv28 f 0 (n + 1) + b * 2 ^ (28 * (n + 1)) = 2 * R + i0) (hR : R < B) (hB : B < 2 ^ (28 * n)) (hi : i0 ≤ 1) : b = 0 := by
  rcases Nat.eq_zero_or_pos b with e | e
  · exact e
  · exfalso
    have h1 := Nat.le_mul_of_pos_left (2 ^ (28 * (n + 1))) e
    have h2 : 2 ^ (28 * (n + 1)) = 2 ^ (28 * n) * 268435456 := by rw [show 28 * (n + 1) = 28 * n + 28 by omega, Nat.pow_add]
    omega
theorem noBorrow {f : Nat → Int32} {n b R B : Nat} (hL : Lm f 0 (n + 1)) (h : lv28 f 0 (n + 1) + B = R + b * 2 ^ (28 * (n + 1))) (hR : B ≤ R) : b = 0 := by
  rcases Nat.eq_zero_or_pos b with e | e
  · exact e
  · exfalso
    have h1 := Nat.le_mul_of_pos_left (2 ^ (28 * (n + 1))) e
    have h2 := lv28_lt hL
    omega
theorem Nu.keep {f g : Nat → Int32} {t : Nat} {x : Int} (h : Nu f t x) (e : ∀ q, 24 * t ≤ q → q < 24 * t + 24 → g q = f q) : Nu g t x := by
  obtain ⟨n, h1, h2, h3⟩ := id h
  exact Nu.congr (n := n) h h2 h1 (fun q hq => e _ (by omega) (by omega))
theorem tdiv_small {x y : Int} (h : x.natAbs < y.natAbs) : x.tdiv y = 0 := by
  rw [← tdivE (by omega), Nat.div_eq_of_lt h]; simp
theorem tmod_small {x y : Int} (h : x.natAbs < y.natAbs) : x.tmod y = x := by
  rw [← tmodE, Nat.mod_eq_of_lt h]; split <;> omega
theorem abs616 {f : Nat → Int32} {o n : Nat} (h : Lm f o n) (hn : n ≤ 22) : lv28 f o n < 2 ^ 616 :=
  Nat.lt_of_lt_of_le (lv28_lt h) (Nat.pow_le_pow_right (by omega) (by omega))
theorem addB {x y : Int32} (hx : -1073741824 ≤ x.toInt ∧ x.toInt ≤ 1073741823) (hy : -1073741824 ≤ y.toInt ∧ y.toInt ≤ 1073741823) : (x + y).toInt = x.toInt + y.toInt := by
  rw [Int32.toInt_add]
  exact Int.bmod_eq_of_le (by omega) (by omega)

def sv28 (f : Nat → Int64) : Nat → Int
  | 0 => 0
  | n + 1 => sv28 f n + (f n).toInt * ((2 ^ (28 * n) : Nat) : Int)
theorem maskS (v : Int64) : ∃ md : Nat, md < 268435456 ∧ (md : Int) = v.toInt % 268435456 ∧ v &&& 268435455 = lN md := by
  refine ⟨v.toBitVec.toNat % 268435456, by omega, ?_, ?_⟩
  · have h : v.toInt = v.toBitVec.toInt := rfl
    rw [h, BitVec.toInt_eq_toNat_cond]
    split <;> omega
  · apply Int64.toBitVec_inj.mp
    apply BitVec.eq_of_toNat_eq
    have h2 : (lN (v.toBitVec.toNat % 268435456)).toBitVec.toNat = v.toBitVec.toNat % 268435456 := Nat.mod_eq_of_lt (by omega)
    rw [Int64.toBitVec_and, BitVec.toNat_and, h2]
    exact Nat.and_two_pow_sub_one_eq_mod _ 28
theorem shrS (v : Int64) : (v >>> ((28 : Int32).toInt64 &&& 63)).toInt = v.toInt / 268435456 := by
  have e : (v >>> ((28 : Int32).toInt64 &&& 63)).toInt = v.toInt >>> 28 := BitVec.toInt_sshiftRight ..
  rw [e, Int.shiftRight_eq_div_pow]
  rfl
theorem addJ {x y : Int64} (hx : -2305843009213693952 ≤ x.toInt ∧ x.toInt ≤ 2305843009213693952) (hy : -2305843009213693952 ≤ y.toInt ∧ y.toInt ≤ 2305843009213693952) : (x + y).toInt = x.toInt + y.toInt := by
  rw [Int64.toInt_add]
  exact Int.bmod_eq_of_le (by omega) (by omega)
theorem sv_step {g : Nat → Int32} {gs : Nat → Int64} {o i md : Nat} {ov v : Int} (ho : o + i < 2 ^ 31) (hm : md < 268435456) (h : ((lv28 g o i : Nat) : Int) + ov * ((2 ^ (28 * i) : Nat) : Int) = sv28 gs i) (hv : v = (gs i).toInt + ov) (hmd : (md : Int) = v % 268435456) :
    ((lv28 (upd g (nI (o + i)).toNatClampNeg (nI md)) o (i + 1) : Nat) : Int) + v / 268435456 * ((2 ^ (28 * (i + 1)) : Nat) : Int) = sv28 gs (i + 1) := by
  have e1 : lv28 (upd g (nI (o + i)).toNatClampNeg (nI md)) o i = lv28 g o i := lv28_congr fun q hq => by rw [upd_at ho, if_neg (by omega)]
  have e2 : (nI md).toNatClampNeg = md := nI_clamp (by omega)
  simp only [lv28, sv28]
  rw [e1, upd_at ho, if_pos rfl, e2, show 28 * (i + 1) = 28 * i + 28 by omega, Nat.pow_add]
  generalize hP : 2 ^ (28 * i) = P at h ⊢
  have e3 : v = (md : Int) + 268435456 * (v / 268435456) := by omega
  have e4 : ((lv28 g o i + md * P : Nat) : Int) = (lv28 g o i : Int) + (md : Int) * (P : Int) := by rw [Int.natCast_add, Int.natCast_mul]
  have e5 : v / 268435456 * ((P * 2 ^ 28 : Nat) : Int) = 268435456 * (v / 268435456) * (P : Int) := by
    rw [Int.natCast_mul, Int.mul_comm (P : Int), ← Int.mul_assoc, Int.mul_comm (v / 268435456)]; rfl
  rw [e4, e5]
  have e6 : (md : Int) * (P : Int) + 268435456 * (v / 268435456) * (P : Int) = v * (P : Int) := by rw [← Int.add_mul, ← e3]
  have e7 : v * (P : Int) = (gs i).toInt * (P : Int) + ov * (P : Int) := by rw [hv, Int.add_mul]
  omega
theorem lv28_top22 {r n v : Nat} (h : v + r * 2 ^ (28 * n) < 2 ^ 616) (hr : 0 < r) : n ≤ 21 := by
  refine Nat.le_of_not_lt fun hn => ?_
  have h1 : 2 ^ 616 ≤ 2 ^ (28 * n) := Nat.pow_le_pow_right (by omega) (by omega)
  have h2 : 2 ^ (28 * n) ≤ r * 2 ^ (28 * n) := Nat.le_mul_of_pos_left _ hr
  omega
theorem ov_pos {L n : Nat} {ov S : Int} (hL : L < 2 ^ (28 * n)) (h : (L : Int) + ov * ((2 ^ (28 * n) : Nat) : Int) = S) (hS : 0 ≤ S) : 0 ≤ ov := by
  refine Int.not_lt.mp fun hneg => ?_
  generalize 2 ^ (28 * n) = P at hL h
  have : ov * (P : Int) ≤ -1 * (P : Int) := Int.mul_le_mul_of_nonneg_right (by omega) (by omega)
  omega
theorem nu_fin {G : Nat → Int32} {sn kk SS : Nat} {sg : Int} {qs : Int32} (hk : kk ≤ 22) (h1 : G (24 * sn + 1) = nI kk) (hL : Lm G (24 * sn + 2) kk) (ht : 0 < kk → G (24 * sn + 1 + kk) ≠ 0) (hv : lv28 G (24 * sn + 2) kk = SS) (hq : (kk = 0 ∧ G (24 * sn) = 0) ∨ (0 < kk ∧ G (24 * sn) = qs)) (hsg : 0 < SS → (sg = 1 ∧ qs = 1) ∨ (sg = -1 ∧ qs = -1)) : Nu G sn (sg * (SS : Int)) := by
  rcases hq with ⟨h0, hq⟩ | ⟨h0, hq⟩
  · subst h0
    have e : SS = 0 := by rw [← hv]; rfl
    subst e
    exact ⟨0, by omega, h1, hL, ht, by simp [lv28], Or.inl ⟨by simp, hq⟩⟩
  · obtain ⟨k, rfl⟩ : ∃ k, kk = k + 1 := ⟨kk - 1, by omega⟩
    have h2 := lv28_ge hL (by rw [show 24 * sn + 2 + k = 24 * sn + 1 + (k + 1) by omega]; exact ht h0)
    have h3 : 0 < 2 ^ (28 * k) := Nat.two_pow_pos _
    have hS : 0 < SS := by omega
    rcases hsg hS with ⟨a1, a2⟩ | ⟨a1, a2⟩
    · subst a1
      exact ⟨k + 1, hk, h1, hL, ht, by rw [hv]; omega, Or.inr (Or.inl ⟨by omega, by rw [hq, a2]⟩)⟩
    · subst a1
      exact ⟨k + 1, hk, h1, hL, ht, by rw [hv]; omega, Or.inr (Or.inr ⟨by omega, by rw [hq, a2]⟩)⟩

section
theorem neg32 {x : Int32} {b : Nat} (h : x.toInt.natAbs ≤ b) (hb : b ≤ 2000000000) : (-x).toInt.natAbs ≤ b ∧ (-x).toInt = -x.toInt := by
  have e : (-x).toInt = -x.toInt := by
    rw [Int32.toInt_neg]; exact Int.bmod_eq_of_le (by omega) (by omega)
  rw [e]; exact ⟨by omega, rfl⟩
abbrev EqP (f61 f71 f72 : Nat → Int32) (i : Nat) : Prop := f71 i = 0 ∧ f61 (3 * cD f72 i) = 2
/-- how many columns a need has -/
def ncw (f61 f71 f72 f73 : Nat → Int32) (i : Nat) : Nat := if f73 i = 0 then 0 else if EqP f61 f71 f72 i then 2 else 1
def ncS (w : Nat → Nat) : Nat → Nat
  | 0 => 0
  | n + 1 => ncS w n + w n
theorem ncS_mono {w : Nat → Nat} {a b : Nat} (h : a ≤ b) : ncS w a ≤ ncS w b := by
  induction b with
  | zero => have : a = 0 := by omega
            subst this; exact Nat.le_refl _
  | succ b ih =>
    by_cases e : a = b + 1
    · subst e; exact Nat.le_refl _
    · exact Nat.le_trans (ih (by omega)) (Nat.le_add_right _ _)
theorem ncS_in {w : Nat → Nat} {i n : Nat} (h : i < n) : ncS w i + w i ≤ ncS w n := ncS_mono (w := w) (show i + 1 ≤ n from h)
theorem ncS_le {w : Nat → Nat} {a b k : Nat} (h : a ≤ b) (hw : ∀ i, a ≤ i → i < b → w i ≤ k) : ncS w b ≤ ncS w a + (b - a) * k := by
  induction b with
  | zero => have : a = 0 := by omega
            subst this; omega
  | succ b ih =>
    by_cases e : a = b + 1
    · subst e; omega
    · have h1 := ih (by omega) (fun i h1 h2 => hw i h1 (by omega))
      have h2 := hw b (by omega) (by omega)
      show ncS w b + w b ≤ _
      rw [show b + 1 - a = b - a + 1 by omega, Nat.succ_mul]; omega
/-- the needs, as they are listed: rows first, then variables -/
def NdO (f71 f72 : Nat → Int32) (vn mr z nd : Nat) : Prop := z ≤ mr ∧ z ≤ nd ∧ nd ≤ z + 2 * vn ∧ (∀ i, i < z → f71 i = 0 ∧ ∃ o, o < mr ∧ f72 i = nI o) ∧ ∀ i, z ≤ i → i < nd → (f71 i = 1 ∨ f71 i = 2) ∧ ∃ o, o < vn ∧ f72 i = nI o
theorem NdO.row {f71 f72 : Nat → Int32} {vn mr z nd i : Nat} (h : NdO f71 f72 vn mr z nd) (hi : i < nd) (h0 : f71 i = 0) : i < z ∧ ∃ o, o < mr ∧ f72 i = nI o := by
  by_cases e : i < z
  · exact ⟨e, (h.2.2.2.1 i e).2⟩
  · exfalso
    rcases (h.2.2.2.2 i (by omega) hi).1 with h1 | h1 <;> rw [h0] at h1 <;> exact absurd h1 (by decide)
theorem NdO.var {f71 f72 : Nat → Int32} {vn mr z nd i : Nat} (h : NdO f71 f72 vn mr z nd) (hi : i < nd) (h0 : ¬ f71 i = 0) : z ≤ i ∧ ∃ o, o < vn ∧ f72 i = nI o := by
  by_cases e : i < z
  · exact absurd (h.2.2.2.1 i e).1 h0
  · exact ⟨by omega, (h.2.2.2.2 i (by omega) hi).2⟩
theorem NdO.any {f71 f72 : Nat → Int32} {vn mr z nd i : Nat} (h : NdO f71 f72 vn mr z nd) (hi : i < nd) : ∃ o, f72 i = nI o ∧ ((f71 i = 0 ∧ o < mr) ∨ (¬ f71 i = 0 ∧ o < vn)) := by
  by_cases e : f71 i = 0
  · obtain ⟨_, o, h1, h2⟩ := h.row hi e
    exact ⟨o, h2, Or.inl ⟨e, h1⟩⟩
  · obtain ⟨_, o, h1, h2⟩ := h.var hi e
    exact ⟨o, h2, Or.inr ⟨e, h1⟩⟩
theorem ncw_le (f61 f71 f72 f73 : Nat → Int32) (i : Nat) : ncw f61 f71 f72 f73 i ≤ 2 := by unfold ncw; split <;> (try split) <;> omega
theorem NdO.w1 {f61 f71 f72 f73 : Nat → Int32} {vn mr z nd i : Nat} (h : NdO f71 f72 vn mr z nd) (hz : z ≤ i) (hi : i < nd) : ncw f61 f71 f72 f73 i ≤ 1 := by
  unfold ncw
  split
  · omega
  · rw [if_neg (fun e => by have h1 := (h.row hi e.1).1; omega)]; omega
theorem NdO.cz {f71 f72 : Nat → Int32} {vn mr z nd : Nat} (h : NdO f71 f72 vn mr z nd) (f61 f73 : Nat → Int32) : ncS (ncw f61 f71 f72 f73) z ≤ 2 * z ∧ ncS (ncw f61 f71 f72 f73) nd ≤ ncS (ncw f61 f71 f72 f73) z + (nd - z) := by
  have h1 := ncS_le (w := ncw f61 f71 f72 f73) (a := 0) (b := z) (k := 2) (by omega) (fun i _ _ => ncw_le f61 f71 f72 f73 i)
  have h2 := ncS_le (w := ncw f61 f71 f72 f73) (a := z) (b := nd) (k := 1) h.2.1 (fun i h3 h4 => h.w1 h3 h4)
  have h3 : ncS (ncw f61 f71 f72 f73) 0 = 0 := rfl
  omega
/-- how great a number can be in a column -/
def bcl (cz j : Nat) : Nat := if j < cz then 99 else 1
theorem sumN_bcl {cz n : Nat} : sumN n (bcl cz) ≤ 99 * cz + (n - cz) := by
  induction n with
  | zero => exact Nat.zero_le _
  | succ n ih =>
    simp only [sumN]
    by_cases e : n < cz
    · have h2 : ∀ k, k ≤ cz → sumN k (bcl cz) ≤ 99 * k := by
        intro k
        induction k with
        | zero => intro _; exact Nat.zero_le _
        | succ k ih2 => intro hk; simp only [sumN]; have h3 := ih2 (by omega); have h4 : bcl cz k = 99 := by unfold bcl; rw [if_pos (by omega)]
                        rw [h4]; omega
      have h3 := h2 n (by omega)
      have h4 : bcl cz n = 99 := by unfold bcl; rw [if_pos e]
      rw [h4]; omega
    · have h4 : bcl cz n = 1 := by unfold bcl; rw [if_neg e]
      rw [h4]; omega
theorem sumN_mono {n : Nat} {f g : Nat → Nat} (h : ∀ q, q < n → f q ≤ g q) : sumN n f ≤ sumN n g := by
  induction n with
  | zero => exact Nat.le_refl _
  | succ n ih => simp only [sumN]; exact Nat.add_le_add (ih (fun q hq => h q (by omega))) (h n (by omega))
/-- the numbers of a line, but the last two -/
def RwB (C : Nat) (m : Nat → Int) (r : Nat) (bb : Nat → Nat) : Prop := ∀ j, j < C - 1 → (m (30 + r * (C + 1) + j)).natAbs ≤ bb j
/-- lines as they are laid -/
def BldP (C R : Nat) (m : Nat → Int) (f5 : Nat → Int32) (bb : Nat → Nat) (Bs : Nat) : Prop := ∀ i, i < R → f5 i = nI (C + i) ∧ RwB C m i bb ∧ m (30 + i * (C + 1) + (C - 1)) = -1 ∧ (m (30 + i * (C + 1) + C)).natAbs ≤ Bs
theorem BldP.more {C R : Nat} {m m2 : Nat → Int} {f5 f52 : Nat → Int32} {bb : Nat → Nat} {Bs : Nat} (h : BldP C R m f5 bb Bs) (hf : ∀ i, i < R → f52 i = f5 i) (e : ∀ p, 30 ≤ p → p < 30 + R * (C + 1) → m2 p = m p) (hC : 0 < C) (h1 : f52 R = nI (C + R)) (h2 : RwB C m2 R bb) (h3 : m2 (30 + R * (C + 1) + (C - 1)) = -1) (h4 : (m2 (30 + R * (C + 1) + C)).natAbs ≤ Bs) : BldP C (R + 1) m2 f52 bb Bs := by
  intro i hi
  by_cases ei : i = R
  · subst ei; exact ⟨h1, h2, h3, h4⟩
  · have hiR : i < R := by omega
    obtain ⟨k1, k2, k3, k4⟩ := h i hiR
    have hp : ∀ j, j ≤ C → m2 (30 + i * (C + 1) + j) = m (30 + i * (C + 1) + j) := fun j hj => e _ (by omega) (by have := pl_lt hiR hj; omega)
    exact ⟨by rw [hf i hiR]; exact k1, fun j hj => by rw [hp j (by omega)]; exact k2 j hj, by rw [hp _ (by omega)]; exact k3, by rw [hp _ (Nat.le_refl _)]; exact k4⟩
theorem BldP.frame {C R : Nat} {m m2 : Nat → Int} {f5 : Nat → Int32} {bb : Nat → Nat} {Bs : Nat} (h : BldP C R m f5 bb Bs) (e : ∀ p, 30 ≤ p → p < 30 + R * (C + 1) → m2 p = m p) : BldP C R m2 f5 bb Bs := by
  intro i hi
  obtain ⟨k1, k2, k3, k4⟩ := h i hi
  have hp : ∀ j, j ≤ C → m2 (30 + i * (C + 1) + j) = m (30 + i * (C + 1) + j) := fun j hj => e _ (by omega) (by have := pl_lt hi hj; omega)
  exact ⟨k1, fun j hj => by rw [hp j (by omega)]; exact k2 j hj, by rw [hp _ (by omega)]; exact k3, by rw [hp _ (Nat.le_refl _)]; exact k4⟩
theorem prov_num : (bF 2393 (2 ^ 74) 1 16 < 2 ^ 258 ∧ bF 2393 (2 ^ 74) 1 16 * 2 ^ 23 < 2 ^ 294) ∧ bF 2393 1 1 18 < 2 ^ 258 ∧ bF 2393 1 1 18 * 2 ^ 23 < 2 ^ 294 := by decide +kernel
/-- the tableaux of a proof are small -/
theorem prov_small {C R cz Bs : Nat} {m : Nat → Int} {f5 : Nat → Int32} (hC : 0 < C) (hC41 : C ≤ 41) (hcz : cz ≤ 24) (hcn : C ≤ cz + 17) (hB : BldP C R m f5 (bcl cz) Bs) (hR : (R ≤ 16 ∧ Bs = 2 ^ 74) ∨ (R ≤ 18 ∧ Bs = 1)) (h1 : ∀ j, j ≤ C → m (30 + R * (C + 1) + j) = if j = C - 1 then 1 else 0) (h2 : ∀ j, j ≤ C → (m (30 + (R + 1) * (C + 1) + j)).natAbs ≤ 99999) :
    ∀ t D rl cl, SxF C R (R + 2) (fun i j => m (30 + i * (C + 1) + j)) t D rl cl → (D.natAbs < 2 ^ 258 ∧ ∀ i, i < R → ∀ j, j ≤ C → (t i j).natAbs < 2 ^ 258) ∧ ∀ i, i < R + 2 → ∀ j, j ≤ C → (t i j).natAbs < 2 ^ 294 := by
  intro t D rl cl h
  have hrow : ∀ i, i < R → sumN C (fun q => (m (30 + i * (C + 1) + q)).natAbs) ≤ 2393 := fun i hi => by
    obtain ⟨k1, k2, k3, k4⟩ := hB i hi
    have e : sumN C (fun q => (m (30 + i * (C + 1) + q)).natAbs) = sumN (C - 1) (fun q => (m (30 + i * (C + 1) + q)).natAbs) + (m (30 + i * (C + 1) + (C - 1))).natAbs := by
      obtain ⟨c, rfl⟩ : ∃ c, C = c + 1 := ⟨C - 1, by omega⟩
      rfl
    have h3 := sumN_mono (n := C - 1) (f := fun q => (m (30 + i * (C + 1) + q)).natAbs) (g := bcl cz) (fun q hq => k2 q hq)
    have h4 := sumN_bcl (cz := cz) (n := C - 1)
    rw [e, k3]; have h5 : (-1 : Int).natAbs = 1 := rfl
    omega
  have hall : ∀ i, R ≤ i → i < R + 2 → sumN (C + 1) (fun q => (m (30 + i * (C + 1) + q)).natAbs) ≤ 2 ^ 23 := fun i hi hT => by
    have h3 : sumN (C + 1) (fun q => (m (30 + i * (C + 1) + q)).natAbs) ≤ (C + 1) * 99999 := sumN_le (fun q hq => by
      by_cases e : i = R
      · subst e; rw [h1 q (by omega)]; split <;> decide
      · have : i = R + 1 := by omega
        subst this; exact h2 q (by omega))
    have h4 : (C + 1) * 99999 ≤ 42 * 99999 := Nat.mul_le_mul_right _ (by omega)
    exact Nat.le_trans (Nat.le_trans h3 h4) (by decide)
  have hn := prov_num
  have key : ∀ k Bq, (R ≤ k) → (∀ i, i < R → (m (30 + i * (C + 1) + C)).natAbs ≤ Bq) → bF 2393 Bq 1 k < 2 ^ 258 → bF 2393 Bq 1 k * 2 ^ 23 < 2 ^ 294 → (D.natAbs < 2 ^ 258 ∧ ∀ i, i < R → ∀ j, j ≤ C → (t i j).natAbs < 2 ^ 258) ∧ ∀ i, i < R + 2 → ∀ j, j ≤ C → (t i j).natAbs < 2 ^ 294 := by
    intro k Bq hk hq hn1 hn2
    have hb := h.bd (W := 2393) (Bc := Bq) (GM := 2 ^ 23) (k := k) (by decide) (by decide) (Or.inl hk) hrow hq hall (by omega)
    refine ⟨⟨Nat.lt_of_le_of_lt hb.1 hn1, fun i hi j hj => ?_⟩, fun i hi j hj => ?_⟩
    · have h3 := hb.2 i (by omega) j hj
      rw [if_pos hi, Nat.mul_one] at h3
      exact Nat.lt_of_le_of_lt h3 hn1
    · have h3 := hb.2 i hi j hj
      refine Nat.lt_of_le_of_lt h3 (Nat.lt_of_le_of_lt (Nat.mul_le_mul_left _ ?_) hn2)
      split
      · exact Nat.one_le_two_pow
      · exact Nat.le_refl _
  rcases hR with ⟨hR1, hR2⟩ | ⟨hR1, hR2⟩
  · exact key 16 (2 ^ 74) hR1 (fun i hi => Nat.le_trans (hB i hi).2.2.2 (Nat.le_of_eq hR2)) hn.1.1 hn.1.2
  · exact key 18 1 hR1 (fun i hi => Nat.le_trans (hB i hi).2.2.2 (Nat.le_of_eq hR2)) hn.2.1 hn.2.2
/-- a need's numbers are not above what its columns may hold -/
theorem NdO.cap {f61 f71 f72 f73 : Nat → Int32} {vn mr z nd i x : Nat} (h : NdO f71 f72 vn mr z nd) (hi : i < nd) (hx : (f71 i = 0 ∧ x ≤ 99) ∨ (¬ f71 i = 0 ∧ x ≤ 1)) : ∀ j, ncS (ncw f61 f71 f72 f73) i ≤ j → j < ncS (ncw f61 f71 f72 f73) i + ncw f61 f71 f72 f73 i → x ≤ bcl (ncS (ncw f61 f71 f72 f73) z) j := by
  intro j h1 h2
  unfold bcl
  rcases hx with ⟨h3, h4⟩ | ⟨h3, h4⟩
  · have h5 := (h.row hi h3).1
    have h6 := ncS_in (w := ncw f61 f71 f72 f73) h5
    rw [if_pos (by omega)]; exact h4
  · have h5 := (h.var hi h3).1
    have h6 := ncS_mono (w := ncw f61 f71 f72 f73) h5
    rw [if_neg (by omega)]; exact h4
theorem bcl_one (cz j : Nat) : 1 ≤ bcl cz j := by unfold bcl; split <;> decide
theorem sub224 {x y : Int} (hx : Sz 223 x) (hy : Sz 201 y) : Sz 224 (x + -1 * y) := by
  unfold Sz at *
  have h1 : (x + -1 * y).natAbs ≤ x.natAbs + y.natAbs := by omega
  have h2 : (2 : Nat) ^ 223 + 2 ^ 201 ≤ 2 ^ 224 := by decide +kernel
  omega
theorem sub259 {x y : Int} (hx : Sz 258 x) (hy : Sz 258 y) : Sz 259 (x + -1 * y) := by
  unfold Sz at *
  have h1 : (x + -1 * y).natAbs ≤ x.natAbs + y.natAbs := by omega
  have h2 : (2 : Nat) ^ 258 + 2 ^ 258 ≤ 2 ^ 259 := by decide +kernel
  omega
end
section
theorem hd_yX12_need1_RX12 : yX12_need1.cls = RX12 ∧ yX12_need1.cls ≠ "java/lang/invoke/MethodHandle" ∧ yX12_need1.cls ≠ "java/lang/invoke/VarHandle" ∧ (parseMethodDescriptor yX12_need1.desc).map (fun d => d.parameters.length) = some 2 := by decide +kernel
theorem hd_yX12_isEqual_RX12 : yX12_isEqual.cls = RX12 ∧ yX12_isEqual.cls ≠ "java/lang/invoke/MethodHandle" ∧ yX12_isEqual.cls ≠ "java/lang/invoke/VarHandle" ∧ (parseMethodDescriptor yX12_isEqual.desc).map (fun d => d.parameters.length) = some 1 := by decide +kernel
theorem dX12_need1_0 : decode cX12_need1 0 = .ok (.aload_n 0, 1) := dk_42 (by decide +kernel)
theorem dX12_need1_1 : decode cX12_need1 1 = .ok (.getfield 236, 3) := dk_180 (by decide +kernel)
theorem dX12_need1_4 : decode cX12_need1 4 = .ok (.aload_n 0, 1) := dk_42 (by decide +kernel)
theorem dX12_need1_5 : decode cX12_need1 5 = .ok (.getfield 894, 3) := dk_180 (by decide +kernel)
theorem dX12_need1_8 : decode cX12_need1 8 = .ok (.iload_n 1, 1) := dk_27 (by decide +kernel)
theorem dX12_need1_9 : decode cX12_need1 9 = .ok (.iastore, 1) := dk_79 (by decide +kernel)
theorem dX12_need1_10 : decode cX12_need1 10 = .ok (.aload_n 0, 1) := dk_42 (by decide +kernel)
theorem dX12_need1_11 : decode cX12_need1 11 = .ok (.getfield 239, 3) := dk_180 (by decide +kernel)
theorem dX12_need1_14 : decode cX12_need1 14 = .ok (.aload_n 0, 1) := dk_42 (by decide +kernel)
theorem dX12_need1_15 : decode cX12_need1 15 = .ok (.getfield 894, 3) := dk_180 (by decide +kernel)
theorem dX12_need1_18 : decode cX12_need1 18 = .ok (.iload_n 2, 1) := dk_28 (by decide +kernel)
theorem dX12_need1_19 : decode cX12_need1 19 = .ok (.iastore, 1) := dk_79 (by decide +kernel)
theorem dX12_need1_20 : decode cX12_need1 20 = .ok (.aload_n 0, 1) := dk_42 (by decide +kernel)
theorem dX12_need1_21 : decode cX12_need1 21 = .ok (.getfield 242, 3) := dk_180 (by decide +kernel)
theorem dX12_need1_24 : decode cX12_need1 24 = .ok (.aload_n 0, 1) := dk_42 (by decide +kernel)
theorem dX12_need1_25 : decode cX12_need1 25 = .ok (.getfield 894, 3) := dk_180 (by decide +kernel)
theorem dX12_need1_28 : decode cX12_need1 28 = .ok (.iconst 1, 1) := dk_4 (by decide +kernel)
theorem dX12_need1_29 : decode cX12_need1 29 = .ok (.iastore, 1) := dk_79 (by decide +kernel)
theorem dX12_need1_30 : decode cX12_need1 30 = .ok (.aload_n 0, 1) := dk_42 (by decide +kernel)
theorem dX12_need1_31 : decode cX12_need1 31 = .ok (.dup, 1) := dk_89 (by decide +kernel)
theorem dX12_need1_32 : decode cX12_need1 32 = .ok (.getfield 894, 3) := dk_180 (by decide +kernel)
theorem dX12_need1_35 : decode cX12_need1 35 = .ok (.iconst 1, 1) := dk_4 (by decide +kernel)
theorem dX12_need1_36 : decode cX12_need1 36 = .ok (.iadd, 1) := dk_96 (by decide +kernel)
theorem dX12_need1_37 : decode cX12_need1 37 = .ok (.putfield 894, 3) := dk_181 (by decide +kernel)
theorem dX12_need1_40 : decode cX12_need1 40 = .ok (.return_, 1) := dk_177 (by decide +kernel)
def wsRX12_need1 : List Cond := .code yX12_need1 cX12_need1 3 none :: ([.fieldLink RX12 236 "OptimaWorksModel" "needKind" "[I", .fieldLink RX12 894 "OptimaWorksModel" "needs" "I", .fieldLink RX12 239 "OptimaWorksModel" "needOf" "[I", .fieldLink RX12 242 "OptimaWorksModel" "needKept" "[I"] ++ wsX120)
theorem iwsRX12_need1_in12 : ∀ w ∈ wsX120, w ∈ wsRX12_need1 := fun _ h => List.mem_cons_of_mem _ (List.mem_append_right _ h)
theorem gdwsRX12_need1 : wsRX12_need1.all goodWord = true := gdC rfl (gdA (by decide +kernel : ([.fieldLink RX12 236 "OptimaWorksModel" "needKind" "[I", .fieldLink RX12 894 "OptimaWorksModel" "needs" "I", .fieldLink RX12 239 "OptimaWorksModel" "needOf" "[I", .fieldLink RX12 242 "OptimaWorksModel" "needKept" "[I"] : List Cond).all goodWord = true) gdwsX120)
theorem hm_r_X12_need1_0 : (.fieldLink RX12 894 "OptimaWorksModel" "needs" "I" : Cond) ∈ wsRX12_need1 := by decide +kernel
set_option maxHeartbeats 4000000 in
set_option maxRecDepth 100000 in
/-- need1(k, of) -/
theorem r_X12_need1 (l : Launch) (dC : Nat → ClassId) (dI : Nat → Nat → Nat) (a : Nat → Nat) (k : Nat → ClassId) (h0 : Nat) (vi : Nat → Int32) (vj : Nat → Int64) (vF : Nat → Nat → Int32) (vG : Nat → Nat → Int64) (kv : Int32) (ov : Int32) (nd : Nat) (hnd : vi 119 = nI nd) (hnd28 : nd < 28) (sz : Nat) : Met l yX12_need1 wsRX12_need1 ({ frames := 0, cells := 0, slots := 0, locals := 0 }) (va_Pc [.ref h0, .int kv, .int ov] (fun U => U.heap.size = sz ∧ va_P (dC, dI) vwCl (WR a k h0 vi vj vF vG) U.heap ∧ va_K (dC, dI) vwCl (tX12 k) U ∧ va_D (fun _ => True) (WR a k h0 vi vj vF vG))) (va_Qv (fun (u : Unit) => True) (fun (u : Unit) t => va_P (dC, dI) vwCl (WR a k h0 (fT vi 119 (nI (nd + 1))) vj (fT (fT (fT vF 71 (upd (vF 71) (nI nd).toNatClampNeg kv)) 72 (upd (vF 72) (nI nd).toNatClampNeg ov)) 73 (upd (vF 73) (nI nd).toNatClampNeg 1)) vG) t.heap ∧ va_D (va_A (WR a k h0 vi vj vF vG) sz) (WR a k h0 (fT vi 119 (nI (nd + 1))) vj (fT (fT (fT vF 71 (upd (vF 71) (nI nd).toNatClampNeg kv)) 72 (upd (vF 72) (nI nd).toNatClampNeg ov)) 73 (upd (vF 73) (nI nd).toNatClampNeg 1)) vG)) (va_A (WR a k h0 vi vj vF vG) sz)) 0 0 (va_A (WR a k h0 vi vj vF vG) sz) := by
  refine Met.ofW (cc := cX12_need1) (maxL := 3) (ret := none) (by decide) rfl ?_
  intro p e s m args below meth c s₁ B hml hv
  obtain ⟨rfl, hsz, hP, hK, hD0⟩ := hv
  have hx := B.exec
  have hb := B.bytes
  have hr := B.returns
  have hts := atoms_spec (ws := wsRX12_need1) B.pre
  have hown : s.vm.findClass RX12 = some m.cls := findClass_of_methodNamed B.named
  have hlocks := B.notSynchronized
  subst hsz
  have hD := hD0.self (sz := s.heap.size)
  generalize hAe : va_A (WR a k h0 vi vj vF vG) s.heap.size = A at hD ⊢
  have hA : ∀ q : Nat, s.heap.size ≤ q → A q := fun q h => by rw [← hAe]; exact Or.inr h
  have hS : va_S A s.heap s.heap [] := va_S.rf
  have hl := lv_entry ([.ref h0, .int kv, .int ov]) (n := 3) (Nat.le_of_ble_eq_true rfl)
  rw [lg_entry_eq]
  generalize (lg_sl ([.ref h0, .int kv, .int ov]) ++ List.replicate (3 - (lg_sl ([.ref h0, .int kv, .int ov])).length) Slot.unset).toArray = ls at hl ⊢
  have hl : lv_has ls 3 [(0, .ref h0), (1, .int kv), (2, .int ov)] := hl
  refine lv_aload_n hx hb dX12_need1_0 rfl (lv_at hl 0 rfl) ?_
  refine va_get (D := (dC, dI)) (ci := 12) (v := .ref (a 71)) (C := RX12) (T := TX12) (N := 163) (fs := fM (vS a vi vj)) hx hb hts iwsRX12_need1_in12 hown hK hP 0 rfl rfl 120 (by decide) (hts (.fieldLink RX12 236 "OptimaWorksModel" "needKind" "[I") (by decide +kernel)) (fun _ h9 => h9) rfl dX12_need1_1 ?_
  refine lv_aload_n hx hb dX12_need1_4 rfl (lv_at hl 0 rfl) ?_
  refine va_get (D := (dC, dI)) (ci := 12) (v := .int (vi 119)) (C := RX12) (T := TX12) (N := 163) (fs := fM (vS a vi vj)) hx hb hts iwsRX12_need1_in12 hown hK hP 0 rfl rfl 119 (by decide) (hts _ hm_r_X12_need1_0) (fun _ h9 => h9) rfl dX12_need1_5 ?_
  refine lv_topi (fun y1 hy1 => ?_)
  obtain rfl : (nI nd) = y1 := (hy1.trans (hnd)).symm
  refine lv_iload_n hx hb dX12_need1_8 rfl (lv_at hl 1 rfl) ?_
  refine va_iast (cA := k 71) (n := 28) (f := (vF 71)) hx hb hK hP hD hS 72 71 (WR_get 71 (by decide)) (TR_get 71 (by decide)) (vp_in_nI (show nd < 28 by omega) (by omega)) dX12_need1_9 (fun H locs hP hD hS => ?_)
  have hP : va_P (dC, dI) vwCl (WR a k h0 vi vj (fT vF 71 (upd (vF 71) ((nI nd)).toNatClampNeg kv)) vG) H := fz_w (WR_F 71 (by decide) _ rfl) hP
  have hD : va_D A (WR a k h0 vi vj (fT vF 71 (upd (vF 71) ((nI nd)).toNatClampNeg kv)) vG) := fz_wD (WR_F 71 (by decide) _ rfl) hD
  refine lv_aload_n hx hb dX12_need1_10 rfl (lv_at hl 0 rfl) ?_
  refine va_get (D := (dC, dI)) (ci := 12) (v := .ref (a 72)) (C := RX12) (T := TX12) (N := 163) (fs := fM (vS a vi vj)) hx hb hts iwsRX12_need1_in12 hown hK hP 0 rfl rfl 121 (by decide) (hts (.fieldLink RX12 239 "OptimaWorksModel" "needOf" "[I") (by decide +kernel)) (fun _ h9 => h9) rfl dX12_need1_11 ?_
  refine lv_aload_n hx hb dX12_need1_14 rfl (lv_at hl 0 rfl) ?_
  refine va_get (D := (dC, dI)) (ci := 12) (v := .int (vi 119)) (C := RX12) (T := TX12) (N := 163) (fs := fM (vS a vi vj)) hx hb hts iwsRX12_need1_in12 hown hK hP 0 rfl rfl 119 (by decide) (hts _ hm_r_X12_need1_0) (fun _ h9 => h9) rfl dX12_need1_15 ?_
  refine lv_topi (fun y2 hy2 => ?_)
  obtain rfl : (nI nd) = y2 := (hy2.trans (hnd)).symm
  refine lv_iload_n hx hb dX12_need1_18 rfl (lv_at hl 2 rfl) ?_
  refine va_iast (cA := k 72) (n := 28) (f := (vF 72)) hx hb hK hP hD hS 73 72 (WR_get 72 (by decide)) (TR_get 72 (by decide)) (vp_in_nI (show nd < 28 by omega) (by omega)) dX12_need1_19 (fun H locs hP hD hS => ?_)
  have hP : va_P (dC, dI) vwCl (WR a k h0 vi vj (fT (fT vF 71 (upd (vF 71) ((nI nd)).toNatClampNeg kv)) 72 (upd (vF 72) ((nI nd)).toNatClampNeg ov)) vG) H := fz_w (WR_F 72 (by decide) _ rfl) hP
  have hD : va_D A (WR a k h0 vi vj (fT (fT vF 71 (upd (vF 71) ((nI nd)).toNatClampNeg kv)) 72 (upd (vF 72) ((nI nd)).toNatClampNeg ov)) vG) := fz_wD (WR_F 72 (by decide) _ rfl) hD
  refine lv_aload_n hx hb dX12_need1_20 rfl (lv_at hl 0 rfl) ?_
  refine va_get (D := (dC, dI)) (ci := 12) (v := .ref (a 73)) (C := RX12) (T := TX12) (N := 163) (fs := fM (vS a vi vj)) hx hb hts iwsRX12_need1_in12 hown hK hP 0 rfl rfl 122 (by decide) (hts (.fieldLink RX12 242 "OptimaWorksModel" "needKept" "[I") (by decide +kernel)) (fun _ h9 => h9) rfl dX12_need1_21 ?_
  refine lv_aload_n hx hb dX12_need1_24 rfl (lv_at hl 0 rfl) ?_
  refine va_get (D := (dC, dI)) (ci := 12) (v := .int (vi 119)) (C := RX12) (T := TX12) (N := 163) (fs := fM (vS a vi vj)) hx hb hts iwsRX12_need1_in12 hown hK hP 0 rfl rfl 119 (by decide) (hts _ hm_r_X12_need1_0) (fun _ h9 => h9) rfl dX12_need1_25 ?_
  refine lv_topi (fun y3 hy3 => ?_)
  obtain rfl : (nI nd) = y3 := (hy3.trans (hnd)).symm
  refine lv_iconst (v := 1) hx hb dX12_need1_28 (by decide) ?_
  refine va_iast (cA := k 73) (n := 28) (f := (vF 73)) hx hb hK hP hD hS 74 73 (WR_get 73 (by decide)) (TR_get 73 (by decide)) (vp_in_nI (show nd < 28 by omega) (by omega)) dX12_need1_29 (fun H locs hP hD hS => ?_)
  have hP : va_P (dC, dI) vwCl (WR a k h0 vi vj (fT (fT (fT vF 71 (upd (vF 71) ((nI nd)).toNatClampNeg kv)) 72 (upd (vF 72) ((nI nd)).toNatClampNeg ov)) 73 (upd (vF 73) ((nI nd)).toNatClampNeg 1)) vG) H := fz_w (WR_F 73 (by decide) _ rfl) hP
  have hD : va_D A (WR a k h0 vi vj (fT (fT (fT vF 71 (upd (vF 71) ((nI nd)).toNatClampNeg kv)) 72 (upd (vF 72) ((nI nd)).toNatClampNeg ov)) 73 (upd (vF 73) ((nI nd)).toNatClampNeg 1)) vG) := fz_wD (WR_F 73 (by decide) _ rfl) hD
  refine lv_aload_n hx hb dX12_need1_30 rfl (lv_at hl 0 rfl) ?_
  refine lv_dup hx hb dX12_need1_31 rfl ?_
  refine va_get (D := (dC, dI)) (ci := 12) (v := .int (vi 119)) (C := RX12) (T := TX12) (N := 163) (fs := fM (vS a vi vj)) hx hb hts iwsRX12_need1_in12 hown hK hP 0 rfl rfl 119 (by decide) (hts _ hm_r_X12_need1_0) (fun _ h9 => h9) rfl dX12_need1_32 ?_
  refine lv_topi (fun y4 hy4 => ?_)
  obtain rfl : (nI nd) = y4 := (hy4.trans (hnd)).symm
  refine lv_iconst (v := 1) hx hb dX12_need1_35 (by decide) ?_
  refine lv_iadd hx hb dX12_need1_36 ?_
  refine lv_topi (fun y5 hy5 => ?_)
  obtain rfl : (nI (nd + 1)) = y5 := (hy5.trans (nI_add nd 1)).symm
  refine va_put (D := (dC, dI)) (ci := 12) (v := .int (nI (nd + 1))) (ty := .int) (C := RX12) (T := TX12) (N := 163) (fs := fM (vS a vi vj)) hx hb hts iwsRX12_need1_in12 tyX12 tyX12_ok nmX12 hown hK hP hD hS 0 rfl rfl 119 (by decide) (hts _ hm_r_X12_need1_0) (fun _ h9 => h9) rfl (by decide +kernel) rfl rfl (Nat.le_of_ble_eq_true rfl) dX12_need1_37 (fun H locs hP hD hS => ?_)
  have hP : va_P (dC, dI) vwCl (WR a k h0 (fT vi 119 (nI (nd + 1))) vj (fT (fT (fT vF 71 (upd (vF 71) ((nI nd)).toNatClampNeg kv)) 72 (upd (vF 72) ((nI nd)).toNatClampNeg ov)) 73 (upd (vF 73) ((nI nd)).toNatClampNeg 1)) vG) H := fz_w (WR_i 119 _ rfl) hP
  have hD : va_D A (WR a k h0 (fT vi 119 (nI (nd + 1))) vj (fT (fT (fT vF 71 (upd (vF 71) ((nI nd)).toNatClampNeg kv)) 72 (upd (vF 72) ((nI nd)).toNatClampNeg ov)) 73 (upd (vF 73) ((nI nd)).toNatClampNeg 1)) vG) := fz_wD (WR_i 119 _ rfl) hD
  refine W.widen (k := 0) (n := 0) (by decide +kernel) (by decide +kernel) ?_
  have e9 : fT (fT (fT vF 71 (upd (vF 71) (nI nd).toNatClampNeg kv)) 72 (upd (vF 72) (nI nd).toNatClampNeg ov)) 73 (upd (vF 73) (nI nd).toNatClampNeg 1) = fT (fT (fT vF 71 (upd (vF 71) ((nI nd)).toNatClampNeg kv)) 72 (upd (vF 72) ((nI nd)).toNatClampNeg ov)) 73 (upd (vF 73) ((nI nd)).toNatClampNeg 1) := Eq.trans (mv_2 rfl) (Eq.trans (congrArg (fT _ 71) (show upd (vF 71) (nI nd).toNatClampNeg kv = upd (vF 71) ((nI nd)).toNatClampNeg kv from (by first | with_reducible rfl | with_reducible assumption | (symm; with_reducible assumption) | rfl | assumption | (symm; assumption) | (subst_vars; rfl)))) (Eq.trans (mv_2 rfl) (Eq.trans (congrArg (fT _ 72) (show upd (vF 72) (nI nd).toNatClampNeg ov = upd (vF 72) ((nI nd)).toNatClampNeg ov from (by first | with_reducible rfl | with_reducible assumption | (symm; with_reducible assumption) | rfl | assumption | (symm; assumption) | (subst_vars; rfl)))) (Eq.trans (mv_2 rfl) (congrArg (fT _ 73) (show upd (vF 73) (nI nd).toNatClampNeg 1 = upd (vF 73) ((nI nd)).toNatClampNeg 1 from (by first | with_reducible rfl | with_reducible assumption | (symm; with_reducible assumption) | rfl | assumption | (symm; assumption) | (subst_vars; rfl))))))))
  have hP := wr_PF e9 hP
  have hD := wr_DF e9 hD
  clear e9
  exact W.vret hx hb hr (fun t9_ ht hW => ⟨⟨(), rfl, trivial, by rw [ht]; exact hP, hD⟩, hS.F ht⟩) hS.2.2 dX12_need1_40
theorem dX12_listNeeds_0 : decode cX12_listNeeds 0 = .ok (.aload_n 0, 1) := dk_42 (by decide +kernel)
theorem dX12_listNeeds_1 : decode cX12_listNeeds 1 = .ok (.iconst 0, 1) := dk_3 (by decide +kernel)
theorem dX12_listNeeds_2 : decode cX12_listNeeds 2 = .ok (.putfield 894, 3) := dk_181 (by decide +kernel)
theorem dX12_listNeeds_5 : decode cX12_listNeeds 5 = .ok (.iconst 0, 1) := dk_3 (by decide +kernel)
theorem dX12_listNeeds_6 : decode cX12_listNeeds 6 = .ok (.istore_n 1, 1) := dk_60 (by decide +kernel)
theorem dX12_listNeeds_7 : decode cX12_listNeeds 7 = .ok (.iload_n 1, 1) := dk_27 (by decide +kernel)
theorem dX12_listNeeds_8 : decode cX12_listNeeds 8 = .ok (.aload_n 0, 1) := dk_42 (by decide +kernel)
theorem dX12_listNeeds_9 : decode cX12_listNeeds 9 = .ok (.getfield 786, 3) := dk_180 (by decide +kernel)
theorem dX12_listNeeds_12 : decode cX12_listNeeds 12 = .ok (.if_icmp .ge 25, 3) := dk_162 (by decide +kernel)
theorem dX12_listNeeds_15 : decode cX12_listNeeds 15 = .ok (.aload_n 0, 1) := dk_42 (by decide +kernel)
theorem dX12_listNeeds_16 : decode cX12_listNeeds 16 = .ok (.getfield 200, 3) := dk_180 (by decide +kernel)
theorem dX12_listNeeds_19 : decode cX12_listNeeds 19 = .ok (.iload_n 1, 1) := dk_27 (by decide +kernel)
theorem dX12_listNeeds_20 : decode cX12_listNeeds 20 = .ok (.iaload, 1) := dk_46 (by decide +kernel)
theorem dX12_listNeeds_21 : decode cX12_listNeeds 21 = .ok (.iconst 1, 1) := dk_4 (by decide +kernel)
theorem dX12_listNeeds_22 : decode cX12_listNeeds 22 = .ok (.if_icmp .ne 9, 3) := dk_160 (by decide +kernel)
theorem dX12_listNeeds_25 : decode cX12_listNeeds 25 = .ok (.aload_n 0, 1) := dk_42 (by decide +kernel)
theorem dX12_listNeeds_26 : decode cX12_listNeeds 26 = .ok (.iconst 0, 1) := dk_3 (by decide +kernel)
theorem dX12_listNeeds_27 : decode cX12_listNeeds 27 = .ok (.iload_n 1, 1) := dk_27 (by decide +kernel)
theorem dX12_listNeeds_28 : decode cX12_listNeeds 28 = .ok (.invokevirtual 897, 3) := dk_182 (by decide +kernel)
theorem dX12_listNeeds_31 : decode cX12_listNeeds 31 = .ok (.iinc 1 1, 3) := dk_132 (by decide +kernel)
theorem dX12_listNeeds_34 : decode cX12_listNeeds 34 = .ok (.goto (-27), 3) := dk_167 (by decide +kernel)
theorem dX12_listNeeds_37 : decode cX12_listNeeds 37 = .ok (.iconst 0, 1) := dk_3 (by decide +kernel)
theorem dX12_listNeeds_38 : decode cX12_listNeeds 38 = .ok (.istore_n 1, 1) := dk_60 (by decide +kernel)
theorem dX12_listNeeds_39 : decode cX12_listNeeds 39 = .ok (.iload_n 1, 1) := dk_27 (by decide +kernel)
theorem dX12_listNeeds_40 : decode cX12_listNeeds 40 = .ok (.aload_n 0, 1) := dk_42 (by decide +kernel)
theorem dX12_listNeeds_41 : decode cX12_listNeeds 41 = .ok (.getfield 774, 3) := dk_180 (by decide +kernel)
theorem dX12_listNeeds_44 : decode cX12_listNeeds 44 = .ok (.if_icmp .ge 15, 3) := dk_162 (by decide +kernel)
theorem dX12_listNeeds_47 : decode cX12_listNeeds 47 = .ok (.aload_n 0, 1) := dk_42 (by decide +kernel)
theorem dX12_listNeeds_48 : decode cX12_listNeeds 48 = .ok (.iconst 1, 1) := dk_4 (by decide +kernel)
theorem dX12_listNeeds_49 : decode cX12_listNeeds 49 = .ok (.iload_n 1, 1) := dk_27 (by decide +kernel)
theorem dX12_listNeeds_50 : decode cX12_listNeeds 50 = .ok (.invokevirtual 897, 3) := dk_182 (by decide +kernel)
theorem dX12_listNeeds_53 : decode cX12_listNeeds 53 = .ok (.iinc 1 1, 3) := dk_132 (by decide +kernel)
theorem dX12_listNeeds_56 : decode cX12_listNeeds 56 = .ok (.goto (-17), 3) := dk_167 (by decide +kernel)
theorem dX12_listNeeds_59 : decode cX12_listNeeds 59 = .ok (.iconst 0, 1) := dk_3 (by decide +kernel)
theorem dX12_listNeeds_60 : decode cX12_listNeeds 60 = .ok (.istore_n 1, 1) := dk_60 (by decide +kernel)
theorem dX12_listNeeds_61 : decode cX12_listNeeds 61 = .ok (.iload_n 1, 1) := dk_27 (by decide +kernel)
theorem dX12_listNeeds_62 : decode cX12_listNeeds 62 = .ok (.aload_n 0, 1) := dk_42 (by decide +kernel)
theorem dX12_listNeeds_63 : decode cX12_listNeeds 63 = .ok (.getfield 774, 3) := dk_180 (by decide +kernel)
theorem dX12_listNeeds_66 : decode cX12_listNeeds 66 = .ok (.if_icmp .ge 15, 3) := dk_162 (by decide +kernel)
theorem dX12_listNeeds_69 : decode cX12_listNeeds 69 = .ok (.aload_n 0, 1) := dk_42 (by decide +kernel)
theorem dX12_listNeeds_70 : decode cX12_listNeeds 70 = .ok (.iconst 2, 1) := dk_5 (by decide +kernel)
theorem dX12_listNeeds_71 : decode cX12_listNeeds 71 = .ok (.iload_n 1, 1) := dk_27 (by decide +kernel)
theorem dX12_listNeeds_72 : decode cX12_listNeeds 72 = .ok (.invokevirtual 897, 3) := dk_182 (by decide +kernel)
theorem dX12_listNeeds_75 : decode cX12_listNeeds 75 = .ok (.iinc 1 1, 3) := dk_132 (by decide +kernel)
theorem dX12_listNeeds_78 : decode cX12_listNeeds 78 = .ok (.goto (-17), 3) := dk_167 (by decide +kernel)
theorem dX12_listNeeds_81 : decode cX12_listNeeds 81 = .ok (.return_, 1) := dk_177 (by decide +kernel)
def wsRX12_listNeeds : List Cond := .code yX12_listNeeds cX12_listNeeds 2 none :: ([.fieldLink RX12 894 "OptimaWorksModel" "needs" "I", .fieldLink RX12 786 "OptimaWorksModel" "modelRows" "I", .fieldLink RX12 774 "OptimaWorksModel" "variables" "I", .fieldLink RX12 200 "OptimaWorksModel" "wayMany" "[I"] ++ wsX120 ++ (wsV RX12 897 RX12 yX12_need1 wsRX12_need1))
theorem iwsRX12_listNeeds_in12 : ∀ w ∈ wsX120, w ∈ wsRX12_listNeeds := fun _ h => List.mem_cons_of_mem _ (List.mem_append_left _ (List.mem_append_right _ h))
theorem gwsRX12_listNeeds_0 : GoodIn wsRX12_listNeeds (wsV RX12 897 RX12 yX12_need1 wsRX12_need1) := goodIn_sub (fun _ h => List.mem_cons_of_mem _ (List.mem_append_right _ h)) (gdV (by decide +kernel) gdwsRX12_need1)
theorem gdwsRX12_listNeeds : wsRX12_listNeeds.all goodWord = true := gdC rfl (gdA (gdA (by decide +kernel : ([.fieldLink RX12 894 "OptimaWorksModel" "needs" "I", .fieldLink RX12 786 "OptimaWorksModel" "modelRows" "I", .fieldLink RX12 774 "OptimaWorksModel" "variables" "I", .fieldLink RX12 200 "OptimaWorksModel" "wayMany" "[I"] : List Cond).all goodWord = true) gdwsX120) (gdV (by decide +kernel) gdwsRX12_need1))
theorem hm_r_X12_listNeeds_0 : (.fieldLink RX12 774 "OptimaWorksModel" "variables" "I" : Cond) ∈ wsRX12_listNeeds := by decide +kernel
set_option maxHeartbeats 4000000 in
set_option maxRecDepth 100000 in
/-- listNeeds() -/
theorem r_X12_listNeeds (l : Launch) (dC : Nat → ClassId) (dI : Nat → Nat → Nat) (a : Nat → Nat) (k : Nat → ClassId) (h0 : Nat) (vi : Nat → Int32) (vj : Nat → Int64) (vF : Nat → Nat → Int32) (vG : Nat → Nat → Int64) (vn : Nat) (mr : Nat) (hvn : vi 90 = nI vn) (hvn8 : vn ≤ 8) (hmr : vi 91 = nI mr) (hmr12 : mr ≤ 12) (sz : Nat) : Met l yX12_listNeeds wsRX12_listNeeds ({ frames := 1, cells := 0, slots := 0, locals := 22 }) (va_Pc [.ref h0] (fun U => U.heap.size = sz ∧ va_P (dC, dI) vwCl (WR a k h0 vi vj vF vG) U.heap ∧ va_K (dC, dI) vwCl (tX12 k) U ∧ va_D (fun _ => True) (WR a k h0 vi vj vF vG))) (va_Qv (fun (u : (Nat → Int32) × (Nat → Int32) × (Nat → Int32) × (Nat) × (Nat)) => (NdO (u.1) (u.2.1) vn mr (u.2.2.2.1) (u.2.2.2.2))) (fun (u : (Nat → Int32) × (Nat → Int32) × (Nat → Int32) × (Nat) × (Nat)) t => va_P (dC, dI) vwCl (WR a k h0 (fT vi 119 (nI (u.2.2.2.2))) vj (fT (fT (fT vF 71 (u.1)) 72 (u.2.1)) 73 (u.2.2.1)) vG) t.heap ∧ va_D (va_A (WR a k h0 vi vj vF vG) sz) (WR a k h0 (fT vi 119 (nI (u.2.2.2.2))) vj (fT (fT (fT vF 71 (u.1)) 72 (u.2.1)) 73 (u.2.2.1)) vG)) (va_A (WR a k h0 vi vj vF vG) sz)) 0 0 (va_A (WR a k h0 vi vj vF vG) sz) := by
  refine Met.ofW (cc := cX12_listNeeds) (maxL := 2) (ret := none) (by decide) rfl ?_
  intro p e s m args below meth c s₁ B hml hv
  obtain ⟨rfl, hsz, hP, hK, hD0⟩ := hv
  have hx := B.exec
  have hb := B.bytes
  have hr := B.returns
  have hts := atoms_spec (ws := wsRX12_listNeeds) B.pre
  have hown : s.vm.findClass RX12 = some m.cls := findClass_of_methodNamed B.named
  have hlocks := B.notSynchronized
  subst hsz
  have hD := hD0.self (sz := s.heap.size)
  generalize hAe : va_A (WR a k h0 vi vj vF vG) s.heap.size = A at hD ⊢
  have hA : ∀ q : Nat, s.heap.size ≤ q → A q := fun q h => by rw [← hAe]; exact Or.inr h
  have hS : va_S A s.heap s.heap [] := va_S.rf
  have hl := lv_entry ([.ref h0]) (n := 2) (Nat.le_of_ble_eq_true rfl)
  rw [lg_entry_eq]
  generalize (lg_sl ([.ref h0]) ++ List.replicate (2 - (lg_sl ([.ref h0])).length) Slot.unset).toArray = ls at hl ⊢
  have hl : lv_has ls 2 [(0, .ref h0)] := hl
  have z9 := nI_0
  refine lv_aload_n hx hb dX12_listNeeds_0 rfl (lv_at hl 0 rfl) ?_
  refine lv_iconst (v := 0) hx hb dX12_listNeeds_1 (by decide) ?_
  refine va_put (D := (dC, dI)) (ci := 12) (v := .int 0) (ty := .int) (C := RX12) (T := TX12) (N := 163) (fs := fM (vS a vi vj)) hx hb hts iwsRX12_listNeeds_in12 tyX12 tyX12_ok nmX12 hown hK hP hD hS 0 rfl rfl 119 (by decide) (hts (.fieldLink RX12 894 "OptimaWorksModel" "needs" "I") (by decide +kernel)) (fun _ h9 => h9) rfl (by decide +kernel) rfl rfl (Nat.le_of_ble_eq_true rfl) dX12_listNeeds_2 (fun H locs hP hD hS => ?_)
  have hP : va_P (dC, dI) vwCl (WR a k h0 (fT vi 119 0) vj vF vG) H := fz_w (WR_i 119 _ rfl) hP
  have hD : va_D A (WR a k h0 (fT vi 119 0) vj vF vG) := fz_wD (WR_i 119 _ rfl) hD
  refine lv_iconst (v := 0) hx hb dX12_listNeeds_5 (by decide) ?_
  refine lv_istore_n hx hb dX12_listNeeds_6 rfl hl (by decide) rfl (fun ls (hl : lv_has ls _ ([(1, .int 0), (0, .ref h0)])) => ?_)
  have e9 : fT vi 119 (nI 0) = fT vi 119 0 := by funext q9; by_cases h9_119 : q9 = 119; (subst h9_119; exact (fT_eq _ _ _).trans (Eq.trans (by first | with_reducible rfl | with_reducible assumption | (symm; with_reducible assumption) | rfl | assumption | (symm; assumption) | (subst_vars; rfl)) (fT_eq _ _ _).symm)); exact (fT_ne _ _ h9_119).trans (fT_ne _ _ h9_119).symm
  have hP := wr_Pi e9 hP
  have hD := wr_Di e9 hD
  clear e9
  have e9 : fT (fT (fT vF 71 (vF 71)) 72 (vF 72)) 73 (vF 73) = vF := Eq.trans (mv_2 rfl) (Eq.trans (id_2 rfl) (Eq.trans (mv_1 rfl) (Eq.trans (id_1 rfl) (id_0 rfl))))
  have hP := wr_PF e9 hP
  have hD := wr_DF e9 hD
  clear e9
  have hl : lv_has _ _ ([(0, .ref h0), (1, .int (nI 0))]) := lv_sub hl [1, 0] rfl
  refine (fun (loop : ∀ (n9 : Nat) (r5 : Nat) (z : Nat) (f71x : Nat → Int32) (f72x : Nat → Int32) (f73x : Nat → Int32) (H : Heap) (locs : List Loc) (ls : Array Slot), (r5 ≤ mr) → (z ≤ r5) → (∀ i, i < z → f71x i = 0 ∧ ∃ o, o < mr ∧ f72x i = nI o) →  (mr < r5 + n9) → va_P (dC, dI) vwCl (WR a k h0 (fT vi 119 (nI z)) vj (fT (fT (fT vF 71 f71x) 72 f72x) 73 f73x) vG) H → va_D A (WR a k h0 (fT vi 119 (nI z)) vj (fT (fT (fT vF 71 f71x) 72 f72x) 73 f73x) vG) → va_S A s.heap H locs → lv_has ls 2 [(0, .ref h0), (1, .int (nI r5))] → W p l e _ s m _ below meth c H locs 0 0 _ (F0 m 7 ls [])) => loop (mr + 1) 0 0 (vF 71) (vF 72) (vF 73) _ _ _ (by omega) (by omega) (fun i hi => absurd hi (by omega)) (by omega) hP hD hS hl) ?_
  intro n9
  induction n9 with
  | zero => intro r5 z f71x f72x f73x H locs ls hr5 hz hr1 hf9; exact False.elim (by omega)
  | succ n9 ih7 =>
    intro r5 z f71x f72x f73x H locs ls hr5 hz hr1 hf7 hP hD hS hl
    refine lv_iload_n hx hb dX12_listNeeds_7 rfl (lv_at hl 1 rfl) ?_
    refine lv_aload_n hx hb dX12_listNeeds_8 rfl (lv_at hl 0 rfl) ?_
    refine va_get (D := (dC, dI)) (ci := 12) (v := .int (vi 91)) (C := RX12) (T := TX12) (N := 163) (fs := fM (vS a (fT vi 119 (nI z)) vj)) hx hb hts iwsRX12_listNeeds_in12 hown hK hP 0 rfl rfl 91 (by decide) (hts (.fieldLink RX12 786 "OptimaWorksModel" "modelRows" "I") (by decide +kernel)) (fun _ h9 => h9) rfl dX12_listNeeds_9 ?_
    refine lv_topi (fun y1 hy1 => ?_)
    obtain rfl : (nI mr) = y1 := (hy1.trans (hmr)).symm
    refine lv_icmp_ge (tgt := 37) hx hb dX12_listNeeds_12 (by decide) (fun c_12 => ?_) (fun c_12 => ?_)
    · have t_12 : ((r5 : Nat) : Int) ≥ ((mr : Nat) : Int) := toI_ge c_12 (nI_toInt (by omega)) (nI_toInt (by omega))
      refine lv_iconst (v := 0) hx hb dX12_listNeeds_37 (by decide) ?_
      refine lv_istore_n hx hb dX12_listNeeds_38 rfl hl (by decide) rfl (fun ls (hl : lv_has ls _ ([(1, .int 0), (0, .ref h0)])) => ?_)
      have e9 : fT vi 119 (nI (z + 0)) = fT vi 119 (nI z) := by funext q9; by_cases h9_119 : q9 = 119; (subst h9_119; exact (fT_eq _ _ _).trans (Eq.trans (by first | with_reducible rfl | with_reducible assumption | (symm; with_reducible assumption) | rfl | assumption | (symm; assumption) | (subst_vars; rfl)) (fT_eq _ _ _).symm)); exact (fT_ne _ _ h9_119).trans (fT_ne _ _ h9_119).symm
      have hP := wr_Pi e9 hP
      have hD := wr_Di e9 hD
      clear e9
      have hl : lv_has _ _ ([(0, .ref h0), (1, .int (nI 0))]) := lv_sub hl [1, 0] rfl
      refine (fun (loop : ∀ (n9 : Nat) (k6 : Nat) (f71y : Nat → Int32) (f72y : Nat → Int32) (f73y : Nat → Int32) (H : Heap) (locs : List Loc) (ls : Array Slot), (k6 ≤ vn) → (∀ i, i < z → f71y i = 0 ∧ ∃ o, o < mr ∧ f72y i = nI o) → (∀ i, z ≤ i → i < z + k6 → (f71y i = 1 ∨ f71y i = 2) ∧ ∃ o, o < vn ∧ f72y i = nI o) →  (vn < k6 + n9) → va_P (dC, dI) vwCl (WR a k h0 (fT vi 119 (nI (z + k6))) vj (fT (fT (fT vF 71 f71y) 72 f72y) 73 f73y) vG) H → va_D A (WR a k h0 (fT vi 119 (nI (z + k6))) vj (fT (fT (fT vF 71 f71y) 72 f72y) 73 f73y) vG) → va_S A s.heap H locs → lv_has ls 2 [(0, .ref h0), (1, .int (nI k6))] → W p l e _ s m _ below meth c H locs 0 0 _ (F0 m 39 ls [])) => loop (vn + 1) 0 f71x f72x f73x _ _ _ (by omega) (hr1) (fun i h1 h2 => absurd h2 (by omega)) (by omega) hP hD hS hl) ?_
      intro n9
      induction n9 with
      | zero => intro k6 f71y f72y f73y H locs ls hk6 hr2 hv2 hf9; exact False.elim (by omega)
      | succ n9 ih39_1 =>
        intro k6 f71y f72y f73y H locs ls hk6 hr2 hv2 hf39_1 hP hD hS hl
        refine lv_iload_n hx hb dX12_listNeeds_39 rfl (lv_at hl 1 rfl) ?_
        refine lv_aload_n hx hb dX12_listNeeds_40 rfl (lv_at hl 0 rfl) ?_
        refine va_get (D := (dC, dI)) (ci := 12) (v := .int (vi 90)) (C := RX12) (T := TX12) (N := 163) (fs := fM (vS a (fT vi 119 (nI (z + k6))) vj)) hx hb hts iwsRX12_listNeeds_in12 hown hK hP 0 rfl rfl 90 (by decide) (hts _ hm_r_X12_listNeeds_0) (fun _ h9 => h9) rfl dX12_listNeeds_41 ?_
        refine lv_topi (fun y2 hy2 => ?_)
        obtain rfl : (nI vn) = y2 := (hy2.trans (hvn)).symm
        refine lv_icmp_ge (tgt := 59) hx hb dX12_listNeeds_44 (by decide) (fun c_44 => ?_) (fun c_44 => ?_)
        · have t_44 : ((k6 : Nat) : Int) ≥ ((vn : Nat) : Int) := toI_ge c_44 (nI_toInt (by omega)) (nI_toInt (by omega))
          refine lv_iconst (v := 0) hx hb dX12_listNeeds_59 (by decide) ?_
          refine lv_istore_n hx hb dX12_listNeeds_60 rfl hl (by decide) rfl (fun ls (hl : lv_has ls _ ([(1, .int 0), (0, .ref h0)])) => ?_)
          have e9 : fT vi 119 (nI (z + k6 + 0)) = fT vi 119 (nI (z + k6)) := by funext q9; by_cases h9_119 : q9 = 119; (subst h9_119; exact (fT_eq _ _ _).trans (Eq.trans (by first | with_reducible rfl | with_reducible assumption | (symm; with_reducible assumption) | rfl | assumption | (symm; assumption) | (subst_vars; rfl)) (fT_eq _ _ _).symm)); exact (fT_ne _ _ h9_119).trans (fT_ne _ _ h9_119).symm
          have hP := wr_Pi e9 hP
          have hD := wr_Di e9 hD
          clear e9
          have hl : lv_has _ _ ([(0, .ref h0), (1, .int (nI 0))]) := lv_sub hl [1, 0] rfl
          refine (fun (loop : ∀ (n9 : Nat) (k7 : Nat) (f71w : Nat → Int32) (f72w : Nat → Int32) (f73w : Nat → Int32) (H : Heap) (locs : List Loc) (ls : Array Slot), (k7 ≤ vn) → (∀ i, i < z → f71w i = 0 ∧ ∃ o, o < mr ∧ f72w i = nI o) → (∀ i, z ≤ i → i < z + k6 + k7 → (f71w i = 1 ∨ f71w i = 2) ∧ ∃ o, o < vn ∧ f72w i = nI o) →  (vn < k7 + n9) → va_P (dC, dI) vwCl (WR a k h0 (fT vi 119 (nI (z + k6 + k7))) vj (fT (fT (fT vF 71 f71w) 72 f72w) 73 f73w) vG) H → va_D A (WR a k h0 (fT vi 119 (nI (z + k6 + k7))) vj (fT (fT (fT vF 71 f71w) 72 f72w) 73 f73w) vG) → va_S A s.heap H locs → lv_has ls 2 [(0, .ref h0), (1, .int (nI k7))] → W p l e _ s m _ below meth c H locs 0 0 _ (F0 m 61 ls [])) => loop (vn + 1) 0 f71y f72y f73y _ _ _ (by omega) (hr2) (hv2) (by omega) hP hD hS hl) ?_
          intro n9
          induction n9 with
          | zero => intro k7 f71w f72w f73w H locs ls hk7 hr3 hv3 hf9; exact False.elim (by omega)
          | succ n9 ih61_2 =>
            intro k7 f71w f72w f73w H locs ls hk7 hr3 hv3 hf61_2 hP hD hS hl
            refine lv_iload_n hx hb dX12_listNeeds_61 rfl (lv_at hl 1 rfl) ?_
            refine lv_aload_n hx hb dX12_listNeeds_62 rfl (lv_at hl 0 rfl) ?_
            refine va_get (D := (dC, dI)) (ci := 12) (v := .int (vi 90)) (C := RX12) (T := TX12) (N := 163) (fs := fM (vS a (fT vi 119 (nI (z + k6 + k7))) vj)) hx hb hts iwsRX12_listNeeds_in12 hown hK hP 0 rfl rfl 90 (by decide) (hts _ hm_r_X12_listNeeds_0) (fun _ h9 => h9) rfl dX12_listNeeds_63 ?_
            refine lv_topi (fun y3 hy3 => ?_)
            obtain rfl : (nI vn) = y3 := (hy3.trans (hvn)).symm
            refine lv_icmp_ge (tgt := 81) hx hb dX12_listNeeds_66 (by decide) (fun c_66 => ?_) (fun c_66 => ?_)
            · have t_66 : ((k7 : Nat) : Int) ≥ ((vn : Nat) : Int) := toI_ge c_66 (nI_toInt (by omega)) (nI_toInt (by omega))
              refine W.widen (k := 0) (n := 0) (by decide +kernel) (by decide +kernel) ?_
              exact W.vret hx hb hr (fun t9_ ht hW => ⟨⟨(f71w, f72w, f73w, z, (z + k6 + k7)), rfl, by (try dsimp only); exact ⟨by omega, by omega, by omega, hr3, hv3⟩, by rw [ht]; exact hP, hD⟩, hS.F ht⟩) hS.2.2 dX12_listNeeds_81
            · have t_66 : ¬ ((k7 : Nat) : Int) ≥ ((vn : Nat) : Int) := toI_nge c_66 (nI_toInt (by omega)) (nI_toInt (by omega))
              refine lv_aload_n hx hb dX12_listNeeds_69 rfl (lv_at hl 0 rfl) ?_
              refine lv_iconst (v := 2) hx hb dX12_listNeeds_70 (by decide) ?_
              refine lv_iload_n hx hb dX12_listNeeds_71 rfl (lv_at hl 1 rfl) ?_
              have hFc := allFree hD hS hA
              refine va_callv (va_runV (As := [.int 2, .int (nI k7)]) (rest := []) ⟨hx, hb, hml, hown, hts⟩ (r_X12_need1 l dC dI a k h0 (fT vi 119 (nI (z + k6 + k7))) vj (fT (fT (fT vF 71 f71w) 72 f72w) 73 f73w) vG 2 (nI k7) (z + k6 + k7) (rfl) (by first | with_reducible assumption | decide | omega | rfl | assumption) H.size) (cwV 2 hts gwsRX12_listNeeds_0 rfl rfl rfl hd_yX12_need1_RX12 (by decide +kernel)) (fz_pre (va_recv hK hP (ci := 12) (q0 := 0) rfl rfl) hP hK hD) rfl rfl hl.1 rfl (lv_room (Nat.le_of_ble_eq_true rfl)) dX12_listNeeds_72 (by decide +kernel)) hS (fun q _ h => hFc q h) hFc (fun u t9_ H locs ht hvm hw9 hB9 hz1 hk1 hS => ?_)
              have e9i : fT vi 119 (nI ((z + k6 + k7) + 1)) = fT (fT vi 119 (nI (z + k6 + k7))) 119 (nI ((z + k6 + k7) + 1)) := (fT_sm _ _ _ _).symm
              have e9F : fT (fT (fT vF 71 (upd f71w (nI (z + k6 + k7)).toNatClampNeg 2)) 72 (upd f72w (nI (z + k6 + k7)).toNatClampNeg (nI k7))) 73 (upd f73w (nI (z + k6 + k7)).toNatClampNeg 1) = fT (fT (fT (fT (fT (fT vF 71 f71w) 72 f72w) 73 f73w) 71 (upd f71w (nI (z + k6 + k7)).toNatClampNeg 2)) 72 (upd f72w (nI (z + k6 + k7)).toNatClampNeg (nI k7))) 73 (upd f73w (nI (z + k6 + k7)).toNatClampNeg 1) := Eq.symm (Eq.trans (congrArg (fun g9 => fT g9 73 (upd f73w (nI (z + k6 + k7)).toNatClampNeg 1)) (Eq.trans (congrArg (fun g9 => fT g9 72 (upd f72w (nI (z + k6 + k7)).toNatClampNeg (nI k7))) (up_2 rfl)) (up_1 rfl))) (up_0 rfl))
              have hP := wr_PF e9F (wr_Pi e9i (fz_P ht hB9.1))
              have hD := wr_DF e9F (wr_Di e9i (hB9.2.weaken (fun _ q _ h => hFc q.1 h)))
              clear e9i e9F
              refine lv_iinc (v := (nI (k7 + 1))) hx hb dX12_listNeeds_75 hl (k := 1) rfl (nI_add k7 1) (by decide) rfl (fun ls (hl : lv_has ls _ ([(1, .int (nI (k7 + 1))), (0, .ref h0)])) => ?_)
              refine lv_goto (tgt := 61) hx hb dX12_listNeeds_78 (by decide) ?_
              have e9 : fT vi 119 (nI (z + k6 + (k7 + 1))) = fT vi 119 (nI ((z + k6 + k7) + 1)) := by funext q9; by_cases h9_119 : q9 = 119; (subst h9_119; exact (fT_eq _ _ _).trans (Eq.trans (by first | with_reducible rfl | with_reducible assumption | (symm; with_reducible assumption) | rfl | assumption | (symm; assumption) | (subst_vars; rfl)) (fT_eq _ _ _).symm)); exact (fT_ne _ _ h9_119).trans (fT_ne _ _ h9_119).symm
              have hP := wr_Pi e9 hP
              have hD := wr_Di e9 hD
              clear e9
              have hl : lv_has _ _ ([(0, .ref h0), (1, .int (nI (k7 + 1)))]) := lv_sub hl [1, 0] rfl
              exact ih61_2 (k7 + 1) (upd f71w (nI (z + k6 + k7)).toNatClampNeg 2) (upd f72w (nI (z + k6 + k7)).toNatClampNeg (nI k7)) (upd f73w (nI (z + k6 + k7)).toNatClampNeg 1) _ _ _ (by omega) (fun i hi => by rw [upd_at (by omega), upd_at (by omega), if_neg (by omega), if_neg (by omega)]; exact hr3 i hi) (fun i hi1 hi2 => by rw [upd_at (by omega), upd_at (by omega)]; by_cases e9 : i = z + k6 + k7; (rw [if_pos e9, if_pos e9]; exact ⟨Or.inr rfl, k7, by omega, rfl⟩); (rw [if_neg e9, if_neg e9]; exact hv3 i hi1 (by omega))) (by omega) hP hD hS hl
        · have t_44 : ¬ ((k6 : Nat) : Int) ≥ ((vn : Nat) : Int) := toI_nge c_44 (nI_toInt (by omega)) (nI_toInt (by omega))
          refine lv_aload_n hx hb dX12_listNeeds_47 rfl (lv_at hl 0 rfl) ?_
          refine lv_iconst (v := 1) hx hb dX12_listNeeds_48 (by decide) ?_
          refine lv_iload_n hx hb dX12_listNeeds_49 rfl (lv_at hl 1 rfl) ?_
          have hFc := allFree hD hS hA
          refine va_callv (va_runV (As := [.int 1, .int (nI k6)]) (rest := []) ⟨hx, hb, hml, hown, hts⟩ (r_X12_need1 l dC dI a k h0 (fT vi 119 (nI (z + k6))) vj (fT (fT (fT vF 71 f71y) 72 f72y) 73 f73y) vG 1 (nI k6) (z + k6) (rfl) (by first | with_reducible assumption | decide | omega | rfl | assumption) H.size) (cwV 2 hts gwsRX12_listNeeds_0 rfl rfl rfl hd_yX12_need1_RX12 (by decide +kernel)) (fz_pre (va_recv hK hP (ci := 12) (q0 := 0) rfl rfl) hP hK hD) rfl rfl hl.1 rfl (lv_room (Nat.le_of_ble_eq_true rfl)) dX12_listNeeds_50 (by decide +kernel)) hS (fun q _ h => hFc q h) hFc (fun u t9_ H locs ht hvm hw9 hB9 hz1 hk1 hS => ?_)
          have e9i : fT vi 119 (nI ((z + k6) + 1)) = fT (fT vi 119 (nI (z + k6))) 119 (nI ((z + k6) + 1)) := (fT_sm _ _ _ _).symm
          have e9F : fT (fT (fT vF 71 (upd f71y (nI (z + k6)).toNatClampNeg 1)) 72 (upd f72y (nI (z + k6)).toNatClampNeg (nI k6))) 73 (upd f73y (nI (z + k6)).toNatClampNeg 1) = fT (fT (fT (fT (fT (fT vF 71 f71y) 72 f72y) 73 f73y) 71 (upd f71y (nI (z + k6)).toNatClampNeg 1)) 72 (upd f72y (nI (z + k6)).toNatClampNeg (nI k6))) 73 (upd f73y (nI (z + k6)).toNatClampNeg 1) := Eq.symm (Eq.trans (congrArg (fun g9 => fT g9 73 (upd f73y (nI (z + k6)).toNatClampNeg 1)) (Eq.trans (congrArg (fun g9 => fT g9 72 (upd f72y (nI (z + k6)).toNatClampNeg (nI k6))) (up_2 rfl)) (up_1 rfl))) (up_0 rfl))
          have hP := wr_PF e9F (wr_Pi e9i (fz_P ht hB9.1))
          have hD := wr_DF e9F (wr_Di e9i (hB9.2.weaken (fun _ q _ h => hFc q.1 h)))
          clear e9i e9F
          refine lv_iinc (v := (nI (k6 + 1))) hx hb dX12_listNeeds_53 hl (k := 1) rfl (nI_add k6 1) (by decide) rfl (fun ls (hl : lv_has ls _ ([(1, .int (nI (k6 + 1))), (0, .ref h0)])) => ?_)
          refine lv_goto (tgt := 39) hx hb dX12_listNeeds_56 (by decide) ?_
          have e9 : fT vi 119 (nI (z + (k6 + 1))) = fT vi 119 (nI ((z + k6) + 1)) := by funext q9; by_cases h9_119 : q9 = 119; (subst h9_119; exact (fT_eq _ _ _).trans (Eq.trans (by first | with_reducible rfl | with_reducible assumption | (symm; with_reducible assumption) | rfl | assumption | (symm; assumption) | (subst_vars; rfl)) (fT_eq _ _ _).symm)); exact (fT_ne _ _ h9_119).trans (fT_ne _ _ h9_119).symm
          have hP := wr_Pi e9 hP
          have hD := wr_Di e9 hD
          clear e9
          have hl : lv_has _ _ ([(0, .ref h0), (1, .int (nI (k6 + 1)))]) := lv_sub hl [1, 0] rfl
          exact ih39_1 (k6 + 1) (upd f71y (nI (z + k6)).toNatClampNeg 1) (upd f72y (nI (z + k6)).toNatClampNeg (nI k6)) (upd f73y (nI (z + k6)).toNatClampNeg 1) _ _ _ (by omega) (fun i hi => by rw [upd_at (by omega), upd_at (by omega), if_neg (by omega), if_neg (by omega)]; exact hr2 i hi) (fun i hi1 hi2 => by rw [upd_at (by omega), upd_at (by omega)]; by_cases e9 : i = z + k6; (rw [if_pos e9, if_pos e9]; exact ⟨Or.inl rfl, k6, by omega, rfl⟩); (rw [if_neg e9, if_neg e9]; exact hv2 i hi1 (by omega))) (by omega) hP hD hS hl
    · have t_12 : ¬ ((r5 : Nat) : Int) ≥ ((mr : Nat) : Int) := toI_nge c_12 (nI_toInt (by omega)) (nI_toInt (by omega))
      refine lv_aload_n hx hb dX12_listNeeds_15 rfl (lv_at hl 0 rfl) ?_
      refine va_get (D := (dC, dI)) (ci := 12) (v := .ref (a 59)) (C := RX12) (T := TX12) (N := 163) (fs := fM (vS a (fT vi 119 (nI z)) vj)) hx hb hts iwsRX12_listNeeds_in12 hown hK hP 0 rfl rfl 99 (by decide) (hts (.fieldLink RX12 200 "OptimaWorksModel" "wayMany" "[I") (by decide +kernel)) (fun _ h9 => h9) rfl dX12_listNeeds_16 ?_
      refine lv_iload_n hx hb dX12_listNeeds_19 rfl (lv_at hl 1 rfl) ?_
      refine va_iald (cA := k 59) (n := 13) (f := (vF 59)) hx hb hK hP 60 59 (WR_get 59 (by decide)) (TR_get 59 (by decide)) (vp_in_nI (show r5 < 13 by omega) (by omega)) dX12_listNeeds_20 ?_
      refine lv_topi (fun y4 hy4 => ?_)
      obtain rfl : ((vF 59) r5) = y4 := (hy4.trans (by rw [nI_clamp (by omega)])).symm
      refine lv_iconst (v := 1) hx hb dX12_listNeeds_21 (by decide) ?_
      refine lv_icmp_ne (tgt := 31) hx hb dX12_listNeeds_22 (by decide) (fun c_22 => ?_) (fun c_22 => ?_)
      · have t_22 : (((vF 59) r5)).toInt ≠ 1 := toI_ne c_22 rfl (by decide)
        refine lv_iinc (v := (nI (r5 + 1))) hx hb dX12_listNeeds_31 hl (k := 1) rfl (nI_add r5 1) (by decide) rfl (fun ls (hl : lv_has ls _ ([(1, .int (nI (r5 + 1))), (0, .ref h0)])) => ?_)
        refine lv_goto (tgt := 7) hx hb dX12_listNeeds_34 (by decide) ?_
        have hl : lv_has _ _ ([(0, .ref h0), (1, .int (nI (r5 + 1)))]) := lv_sub hl [1, 0] rfl
        exact ih7 (r5 + 1) z f71x f72x f73x _ _ _ (by omega) (by omega) (hr1) (by omega) hP hD hS hl
      · have t_22 : (((vF 59) r5)).toInt = 1 := toI_nne c_22 rfl (by decide)
        refine lv_aload_n hx hb dX12_listNeeds_25 rfl (lv_at hl 0 rfl) ?_
        refine lv_iconst (v := 0) hx hb dX12_listNeeds_26 (by decide) ?_
        refine lv_iload_n hx hb dX12_listNeeds_27 rfl (lv_at hl 1 rfl) ?_
        have hFc := allFree hD hS hA
        refine va_callv (va_runV (As := [.int 0, .int (nI r5)]) (rest := []) ⟨hx, hb, hml, hown, hts⟩ (r_X12_need1 l dC dI a k h0 (fT vi 119 (nI z)) vj (fT (fT (fT vF 71 f71x) 72 f72x) 73 f73x) vG 0 (nI r5) z (rfl) (by first | with_reducible assumption | decide | omega | rfl | assumption) H.size) (cwV 2 hts gwsRX12_listNeeds_0 rfl rfl rfl hd_yX12_need1_RX12 (by decide +kernel)) (fz_pre (va_recv hK hP (ci := 12) (q0 := 0) rfl rfl) hP hK hD) rfl rfl hl.1 rfl (lv_room (Nat.le_of_ble_eq_true rfl)) dX12_listNeeds_28 (by decide +kernel)) hS (fun q _ h => hFc q h) hFc (fun u t9_ H locs ht hvm hw9 hB9 hz1 hk1 hS => ?_)
        have e9i : fT vi 119 (nI (z + 1)) = fT (fT vi 119 (nI z)) 119 (nI (z + 1)) := (fT_sm _ _ _ _).symm
        have e9F : fT (fT (fT vF 71 (upd f71x (nI z).toNatClampNeg 0)) 72 (upd f72x (nI z).toNatClampNeg (nI r5))) 73 (upd f73x (nI z).toNatClampNeg 1) = fT (fT (fT (fT (fT (fT vF 71 f71x) 72 f72x) 73 f73x) 71 (upd f71x (nI z).toNatClampNeg 0)) 72 (upd f72x (nI z).toNatClampNeg (nI r5))) 73 (upd f73x (nI z).toNatClampNeg 1) := Eq.symm (Eq.trans (congrArg (fun g9 => fT g9 73 (upd f73x (nI z).toNatClampNeg 1)) (Eq.trans (congrArg (fun g9 => fT g9 72 (upd f72x (nI z).toNatClampNeg (nI r5))) (up_2 rfl)) (up_1 rfl))) (up_0 rfl))
        have hP := wr_PF e9F (wr_Pi e9i (fz_P ht hB9.1))
        have hD := wr_DF e9F (wr_Di e9i (hB9.2.weaken (fun _ q _ h => hFc q.1 h)))
        clear e9i e9F
        refine lv_iinc (v := (nI (r5 + 1))) hx hb dX12_listNeeds_31 hl (k := 1) rfl (nI_add r5 1) (by decide) rfl (fun ls (hl : lv_has ls _ ([(1, .int (nI (r5 + 1))), (0, .ref h0)])) => ?_)
        refine lv_goto (tgt := 7) hx hb dX12_listNeeds_34 (by decide) ?_
        have hl : lv_has _ _ ([(0, .ref h0), (1, .int (nI (r5 + 1)))]) := lv_sub hl [1, 0] rfl
        exact ih7 (r5 + 1) (z + 1) (upd f71x (nI z).toNatClampNeg 0) (upd f72x (nI z).toNatClampNeg (nI r5)) (upd f73x (nI z).toNatClampNeg 1) _ _ _ (by omega) (by omega) (fun i hi => by rw [upd_at (by omega), upd_at (by omega)]; by_cases e9 : i = z; (rw [if_pos e9, if_pos e9]; exact ⟨rfl, r5, by omega, rfl⟩); (rw [if_neg e9, if_neg e9]; exact hr1 i (by omega))) (by omega) hP hD hS hl
theorem dX12_isEqual_0 : decode cX12_isEqual 0 = .ok (.aload_n 0, 1) := dk_42 (by decide +kernel)
theorem dX12_isEqual_1 : decode cX12_isEqual 1 = .ok (.getfield 236, 3) := dk_180 (by decide +kernel)
theorem dX12_isEqual_4 : decode cX12_isEqual 4 = .ok (.iload_n 1, 1) := dk_27 (by decide +kernel)
theorem dX12_isEqual_5 : decode cX12_isEqual 5 = .ok (.iaload, 1) := dk_46 (by decide +kernel)
theorem dX12_isEqual_6 : decode cX12_isEqual 6 = .ok (.ifCond .ne 24, 3) := dk_154 (by decide +kernel)
theorem dX12_isEqual_9 : decode cX12_isEqual 9 = .ok (.aload_n 0, 1) := dk_42 (by decide +kernel)
theorem dX12_isEqual_10 : decode cX12_isEqual 10 = .ok (.getfield 206, 3) := dk_180 (by decide +kernel)
theorem dX12_isEqual_13 : decode cX12_isEqual 13 = .ok (.iconst 3, 1) := dk_6 (by decide +kernel)
theorem dX12_isEqual_14 : decode cX12_isEqual 14 = .ok (.aload_n 0, 1) := dk_42 (by decide +kernel)
theorem dX12_isEqual_15 : decode cX12_isEqual 15 = .ok (.getfield 239, 3) := dk_180 (by decide +kernel)
theorem dX12_isEqual_18 : decode cX12_isEqual 18 = .ok (.iload_n 1, 1) := dk_27 (by decide +kernel)
theorem dX12_isEqual_19 : decode cX12_isEqual 19 = .ok (.iaload, 1) := dk_46 (by decide +kernel)
theorem dX12_isEqual_20 : decode cX12_isEqual 20 = .ok (.imul, 1) := dk_104 (by decide +kernel)
theorem dX12_isEqual_21 : decode cX12_isEqual 21 = .ok (.iaload, 1) := dk_46 (by decide +kernel)
theorem dX12_isEqual_22 : decode cX12_isEqual 22 = .ok (.iconst 2, 1) := dk_5 (by decide +kernel)
theorem dX12_isEqual_23 : decode cX12_isEqual 23 = .ok (.if_icmp .ne 7, 3) := dk_160 (by decide +kernel)
theorem dX12_isEqual_26 : decode cX12_isEqual 26 = .ok (.iconst 1, 1) := dk_4 (by decide +kernel)
theorem dX12_isEqual_27 : decode cX12_isEqual 27 = .ok (.goto 4, 3) := dk_167 (by decide +kernel)
theorem dX12_isEqual_30 : decode cX12_isEqual 30 = .ok (.iconst 0, 1) := dk_3 (by decide +kernel)
theorem dX12_isEqual_31 : decode cX12_isEqual 31 = .ok (.ireturn, 1) := dk_172 (by decide +kernel)
def wsRX12_isEqual : List Cond := .code yX12_isEqual cX12_isEqual 2 (some .boolean) :: ([.fieldLink RX12 236 "OptimaWorksModel" "needKind" "[I", .fieldLink RX12 206 "OptimaWorksModel" "waySign" "[I", .fieldLink RX12 239 "OptimaWorksModel" "needOf" "[I"] ++ wsX120)
theorem iwsRX12_isEqual_in12 : ∀ w ∈ wsX120, w ∈ wsRX12_isEqual := fun _ h => List.mem_cons_of_mem _ (List.mem_append_right _ h)
theorem gdwsRX12_isEqual : wsRX12_isEqual.all goodWord = true := gdC rfl (gdA (by decide +kernel : ([.fieldLink RX12 236 "OptimaWorksModel" "needKind" "[I", .fieldLink RX12 206 "OptimaWorksModel" "waySign" "[I", .fieldLink RX12 239 "OptimaWorksModel" "needOf" "[I"] : List Cond).all goodWord = true) gdwsX120)
set_option maxHeartbeats 4000000 in
set_option maxRecDepth 100000 in
/-- isEqual(i) -/
theorem r_X12_isEqual (l : Launch) (dC : Nat → ClassId) (dI : Nat → Nat → Nat) (a : Nat → Nat) (k : Nat → ClassId) (h0 : Nat) (vi : Nat → Int32) (vj : Nat → Int64) (vF : Nat → Nat → Int32) (vG : Nat → Nat → Int64) (iN : Nat) (vn : Nat) (mr : Nat) (z : Nat) (nd : Nat) (hN : NdO (vF 71) (vF 72) vn mr z nd) (hvn8 : vn ≤ 8) (hmr12 : mr ≤ 12) (hiN : iN < nd) (sz : Nat) : Met l yX12_isEqual wsRX12_isEqual ({ frames := 0, cells := 0, slots := 0, locals := 0 }) (va_Pc [.ref h0, .int (nI iN)] (fun U => U.heap.size = sz ∧ va_P (dC, dI) vwCl (WR a k h0 vi vj vF vG) U.heap ∧ va_K (dC, dI) vwCl (tX12 k) U ∧ va_D (fun _ => True) (WR a k h0 vi vj vF vG))) (va_Qi (fun (r : Int32) (u : Unit) => (r = 1 ∧ (EqP (vF 61) (vF 71) (vF 72) iN)) ∨ (r = 0 ∧ (¬ EqP (vF 61) (vF 71) (vF 72) iN))) (fun (u : Unit) t => va_P (dC, dI) vwCl (WR a k h0 vi vj vF vG) t.heap ∧ va_D (va_A (WR a k h0 vi vj vF vG) sz) (WR a k h0 vi vj vF vG)) (va_A (WR a k h0 vi vj vF vG) sz)) 0 0 (va_A (WR a k h0 vi vj vF vG) sz) := by
  refine Met.ofW (cc := cX12_isEqual) (maxL := 2) (ret := (some .boolean)) (by decide) rfl ?_
  intro p e s m args below meth c s₁ B hml hv
  obtain ⟨rfl, hsz, hP, hK, hD0⟩ := hv
  have hx := B.exec
  have hb := B.bytes
  have hr := B.returns
  have hts := atoms_spec (ws := wsRX12_isEqual) B.pre
  have hown : s.vm.findClass RX12 = some m.cls := findClass_of_methodNamed B.named
  have hlocks := B.notSynchronized
  subst hsz
  have hD := hD0.self (sz := s.heap.size)
  generalize hAe : va_A (WR a k h0 vi vj vF vG) s.heap.size = A at hD ⊢
  have hA : ∀ q : Nat, s.heap.size ≤ q → A q := fun q h => by rw [← hAe]; exact Or.inr h
  have hS : va_S A s.heap s.heap [] := va_S.rf
  have hl := lv_entry ([.ref h0, .int (nI iN)]) (n := 2) (Nat.le_of_ble_eq_true rfl)
  rw [lg_entry_eq]
  generalize (lg_sl ([.ref h0, .int (nI iN)]) ++ List.replicate (2 - (lg_sl ([.ref h0, .int (nI iN)])).length) Slot.unset).toArray = ls at hl ⊢
  have hl : lv_has ls 2 [(0, .ref h0), (1, .int (nI iN))] := hl
  have hn28 : nd ≤ 28 := by have h1 := hN.1; have h2 := hN.2.2.1; omega
  refine lv_aload_n hx hb dX12_isEqual_0 rfl (lv_at hl 0 rfl) ?_
  refine va_get (D := (dC, dI)) (ci := 12) (v := .ref (a 71)) (C := RX12) (T := TX12) (N := 163) (fs := fM (vS a vi vj)) hx hb hts iwsRX12_isEqual_in12 hown hK hP 0 rfl rfl 120 (by decide) (hts (.fieldLink RX12 236 "OptimaWorksModel" "needKind" "[I") (by decide +kernel)) (fun _ h9 => h9) rfl dX12_isEqual_1 ?_
  refine lv_iload_n hx hb dX12_isEqual_4 rfl (lv_at hl 1 rfl) ?_
  refine va_iald (cA := k 71) (n := 28) (f := (vF 71)) hx hb hK hP 72 71 (WR_get 71 (by decide)) (TR_get 71 (by decide)) (vp_in_nI (show iN < 28 by omega) (by omega)) dX12_isEqual_5 ?_
  refine lv_topi (fun y1 hy1 => ?_)
  obtain rfl : ((vF 71) iN) = y1 := (hy1.trans (by rw [nI_clamp (by omega)])).symm
  refine lv_if_ne (tgt := 30) hx hb dX12_isEqual_6 (by decide) (fun c_6 => ?_) (fun c_6 => ?_)
  · have t_6 : (((vF 71) iN)).toInt ≠ 0 := toI_ne c_6 rfl (by decide)
    refine lv_iconst (v := 0) hx hb dX12_isEqual_30 (by decide) ?_
    refine W.widen (k := 0) (n := 0) (by decide +kernel) (by decide +kernel) ?_
    exact W.zret (v := 0) hx hb hr rfl (fun t9_ ht hW => ⟨⟨0, (), rfl, by (try dsimp only); exact Or.inr ⟨rfl, fun h9 => c_6 h9.1⟩, by rw [ht]; exact hP, hD⟩, hS.F ht⟩) hS.2.2 dX12_isEqual_31
  · have t_6 : (((vF 71) iN)).toInt = 0 := toI_nne c_6 rfl (by decide)
    obtain ⟨hiz, o, ho1, ho2⟩ := hN.row hiN c_6
    refine lv_aload_n hx hb dX12_isEqual_9 rfl (lv_at hl 0 rfl) ?_
    refine va_get (D := (dC, dI)) (ci := 12) (v := .ref (a 61)) (C := RX12) (T := TX12) (N := 163) (fs := fM (vS a vi vj)) hx hb hts iwsRX12_isEqual_in12 hown hK hP 0 rfl rfl 101 (by decide) (hts (.fieldLink RX12 206 "OptimaWorksModel" "waySign" "[I") (by decide +kernel)) (fun _ h9 => h9) rfl dX12_isEqual_10 ?_
    refine lv_iconst (v := 3) hx hb dX12_isEqual_13 (by decide) ?_
    refine lv_aload_n hx hb dX12_isEqual_14 rfl (lv_at hl 0 rfl) ?_
    refine va_get (D := (dC, dI)) (ci := 12) (v := .ref (a 72)) (C := RX12) (T := TX12) (N := 163) (fs := fM (vS a vi vj)) hx hb hts iwsRX12_isEqual_in12 hown hK hP 0 rfl rfl 121 (by decide) (hts (.fieldLink RX12 239 "OptimaWorksModel" "needOf" "[I") (by decide +kernel)) (fun _ h9 => h9) rfl dX12_isEqual_15 ?_
    refine lv_iload_n hx hb dX12_isEqual_18 rfl (lv_at hl 1 rfl) ?_
    refine va_iald (cA := k 72) (n := 28) (f := (vF 72)) hx hb hK hP 73 72 (WR_get 72 (by decide)) (TR_get 72 (by decide)) (vp_in_nI (show iN < 28 by omega) (by omega)) dX12_isEqual_19 ?_
    refine lv_topi (fun y2 hy2 => ?_)
    obtain rfl : ((vF 72) iN) = y2 := (hy2.trans (by rw [nI_clamp (by omega)])).symm
    refine lv_topi (fun y3 hy3 => ?_)
    obtain rfl : (nI o) = y3 := (hy3.trans (ho2)).symm
    refine lv_imul hx hb dX12_isEqual_20 ?_
    refine lv_topi (fun y4 hy4 => ?_)
    obtain rfl : (nI (3 * o)) = y4 := (hy4.trans (pk_mul 3 o)).symm
    refine va_iald (cA := k 61) (n := 39) (f := (vF 61)) hx hb hK hP 62 61 (WR_get 61 (by decide)) (TR_get 61 (by decide)) (vp_in_nI (show (3 * o) < 39 by omega) (by omega)) dX12_isEqual_21 ?_
    refine lv_topi (fun y5 hy5 => ?_)
    obtain rfl : ((vF 61) (3 * o)) = y5 := (hy5.trans (by rw [nI_clamp (by omega)])).symm
    refine lv_iconst (v := 2) hx hb dX12_isEqual_22 (by decide) ?_
    refine lv_icmp_ne (tgt := 30) hx hb dX12_isEqual_23 (by decide) (fun c_23 => ?_) (fun c_23 => ?_)
    · have t_23 : (((vF 61) (3 * o))).toInt ≠ 2 := toI_ne c_23 rfl (by decide)
      refine lv_iconst (v := 0) hx hb dX12_isEqual_30 (by decide) ?_
      refine W.widen (k := 0) (n := 0) (by decide +kernel) (by decide +kernel) ?_
      exact W.zret (v := 0) hx hb hr rfl (fun t9_ ht hW => ⟨⟨0, (), rfl, by (try dsimp only); exact Or.inr ⟨rfl, fun h9 => by (have h8 := h9.2); unfold cD at h8; rw [ho2, nI_clamp (by omega)] at h8; exact c_23 h8⟩, by rw [ht]; exact hP, hD⟩, hS.F ht⟩) hS.2.2 dX12_isEqual_31
    · have t_23 : (((vF 61) (3 * o))).toInt = 2 := toI_nne c_23 rfl (by decide)
      refine lv_iconst (v := 1) hx hb dX12_isEqual_26 (by decide) ?_
      refine lv_goto (tgt := 31) hx hb dX12_isEqual_27 (by decide) ?_
      refine W.widen (k := 0) (n := 0) (by decide +kernel) (by decide +kernel) ?_
      exact W.zret (v := 1) hx hb hr rfl (fun t9_ ht hW => ⟨⟨1, (), rfl, by (try dsimp only); exact Or.inl ⟨rfl, c_6, by unfold cD; rw [ho2, nI_clamp (by omega)]; exact c_23⟩, by rw [ht]; exact hP, hD⟩, hS.F ht⟩) hS.2.2 dX12_isEqual_31
theorem dX12_needNumber_0 : decode cX12_needNumber 0 = .ok (.aload_n 0, 1) := dk_42 (by decide +kernel)
theorem dX12_needNumber_1 : decode cX12_needNumber 1 = .ok (.getfield 239, 3) := dk_180 (by decide +kernel)
theorem dX12_needNumber_4 : decode cX12_needNumber 4 = .ok (.iload_n 1, 1) := dk_27 (by decide +kernel)
theorem dX12_needNumber_5 : decode cX12_needNumber 5 = .ok (.iaload, 1) := dk_46 (by decide +kernel)
theorem dX12_needNumber_6 : decode cX12_needNumber 6 = .ok (.istore_n 3, 1) := dk_62 (by decide +kernel)
theorem dX12_needNumber_7 : decode cX12_needNumber 7 = .ok (.aload_n 0, 1) := dk_42 (by decide +kernel)
theorem dX12_needNumber_8 : decode cX12_needNumber 8 = .ok (.getfield 236, 3) := dk_180 (by decide +kernel)
theorem dX12_needNumber_11 : decode cX12_needNumber 11 = .ok (.iload_n 1, 1) := dk_27 (by decide +kernel)
theorem dX12_needNumber_12 : decode cX12_needNumber 12 = .ok (.iaload, 1) := dk_46 (by decide +kernel)
theorem dX12_needNumber_13 : decode cX12_needNumber 13 = .ok (.iconst 1, 1) := dk_4 (by decide +kernel)
theorem dX12_needNumber_14 : decode cX12_needNumber 14 = .ok (.if_icmp .ne 28, 3) := dk_160 (by decide +kernel)
theorem dX12_needNumber_17 : decode cX12_needNumber 17 = .ok (.iload_n 2, 1) := dk_28 (by decide +kernel)
theorem dX12_needNumber_18 : decode cX12_needNumber 18 = .ok (.iconst (-1), 1) := dk_2 (by decide +kernel)
theorem dX12_needNumber_19 : decode cX12_needNumber 19 = .ok (.if_icmp .ne 12, 3) := dk_160 (by decide +kernel)
theorem dX12_needNumber_31 : decode cX12_needNumber 31 = .ok (.iload_n 2, 1) := dk_28 (by decide +kernel)
theorem dX12_needNumber_32 : decode cX12_needNumber 32 = .ok (.iload_n 3, 1) := dk_29 (by decide +kernel)
theorem dX12_needNumber_33 : decode cX12_needNumber 33 = .ok (.if_icmp .ne 7, 3) := dk_160 (by decide +kernel)
theorem dX12_needNumber_36 : decode cX12_needNumber 36 = .ok (.iconst 1, 1) := dk_4 (by decide +kernel)
theorem dX12_needNumber_37 : decode cX12_needNumber 37 = .ok (.goto 4, 3) := dk_167 (by decide +kernel)
theorem dX12_needNumber_40 : decode cX12_needNumber 40 = .ok (.iconst 0, 1) := dk_3 (by decide +kernel)
theorem dX12_needNumber_41 : decode cX12_needNumber 41 = .ok (.ireturn, 1) := dk_172 (by decide +kernel)
theorem dX12_needNumber_42 : decode cX12_needNumber 42 = .ok (.aload_n 0, 1) := dk_42 (by decide +kernel)
theorem dX12_needNumber_43 : decode cX12_needNumber 43 = .ok (.getfield 236, 3) := dk_180 (by decide +kernel)
theorem dX12_needNumber_46 : decode cX12_needNumber 46 = .ok (.iload_n 1, 1) := dk_27 (by decide +kernel)
theorem dX12_needNumber_47 : decode cX12_needNumber 47 = .ok (.iaload, 1) := dk_46 (by decide +kernel)
theorem dX12_needNumber_48 : decode cX12_needNumber 48 = .ok (.iconst 2, 1) := dk_5 (by decide +kernel)
theorem dX12_needNumber_49 : decode cX12_needNumber 49 = .ok (.if_icmp .ne 29, 3) := dk_160 (by decide +kernel)
theorem dX12_needNumber_52 : decode cX12_needNumber 52 = .ok (.iload_n 2, 1) := dk_28 (by decide +kernel)
theorem dX12_needNumber_53 : decode cX12_needNumber 53 = .ok (.iconst (-1), 1) := dk_2 (by decide +kernel)
theorem dX12_needNumber_54 : decode cX12_needNumber 54 = .ok (.if_icmp .ne 13, 3) := dk_160 (by decide +kernel)
theorem dX12_needNumber_67 : decode cX12_needNumber 67 = .ok (.iload_n 2, 1) := dk_28 (by decide +kernel)
theorem dX12_needNumber_68 : decode cX12_needNumber 68 = .ok (.iload_n 3, 1) := dk_29 (by decide +kernel)
theorem dX12_needNumber_69 : decode cX12_needNumber 69 = .ok (.if_icmp .ne 7, 3) := dk_160 (by decide +kernel)
theorem dX12_needNumber_72 : decode cX12_needNumber 72 = .ok (.iconst (-1), 1) := dk_2 (by decide +kernel)
theorem dX12_needNumber_73 : decode cX12_needNumber 73 = .ok (.goto 4, 3) := dk_167 (by decide +kernel)
theorem dX12_needNumber_76 : decode cX12_needNumber 76 = .ok (.iconst 0, 1) := dk_3 (by decide +kernel)
theorem dX12_needNumber_77 : decode cX12_needNumber 77 = .ok (.ireturn, 1) := dk_172 (by decide +kernel)
theorem dX12_needNumber_78 : decode cX12_needNumber 78 = .ok (.aload_n 0, 1) := dk_42 (by decide +kernel)
theorem dX12_needNumber_79 : decode cX12_needNumber 79 = .ok (.getfield 203, 3) := dk_180 (by decide +kernel)
theorem dX12_needNumber_82 : decode cX12_needNumber 82 = .ok (.bipush 27, 2) := dk_16 (by decide +kernel)
theorem dX12_needNumber_84 : decode cX12_needNumber 84 = .ok (.iload_n 3, 1) := dk_29 (by decide +kernel)
theorem dX12_needNumber_85 : decode cX12_needNumber 85 = .ok (.imul, 1) := dk_104 (by decide +kernel)
theorem dX12_needNumber_86 : decode cX12_needNumber 86 = .ok (.iconst 1, 1) := dk_4 (by decide +kernel)
theorem dX12_needNumber_87 : decode cX12_needNumber 87 = .ok (.iadd, 1) := dk_96 (by decide +kernel)
theorem dX12_needNumber_88 : decode cX12_needNumber 88 = .ok (.iload_n 2, 1) := dk_28 (by decide +kernel)
theorem dX12_needNumber_89 : decode cX12_needNumber 89 = .ok (.iadd, 1) := dk_96 (by decide +kernel)
theorem dX12_needNumber_90 : decode cX12_needNumber 90 = .ok (.iaload, 1) := dk_46 (by decide +kernel)
theorem dX12_needNumber_91 : decode cX12_needNumber 91 = .ok (.istore 4, 2) := dk_54 (by decide +kernel)
theorem dX12_needNumber_93 : decode cX12_needNumber 93 = .ok (.aload_n 0, 1) := dk_42 (by decide +kernel)
theorem dX12_needNumber_94 : decode cX12_needNumber 94 = .ok (.getfield 206, 3) := dk_180 (by decide +kernel)
theorem dX12_needNumber_97 : decode cX12_needNumber 97 = .ok (.iconst 3, 1) := dk_6 (by decide +kernel)
theorem dX12_needNumber_98 : decode cX12_needNumber 98 = .ok (.iload_n 3, 1) := dk_29 (by decide +kernel)
theorem dX12_needNumber_99 : decode cX12_needNumber 99 = .ok (.imul, 1) := dk_104 (by decide +kernel)
theorem dX12_needNumber_100 : decode cX12_needNumber 100 = .ok (.iaload, 1) := dk_46 (by decide +kernel)
theorem dX12_needNumber_101 : decode cX12_needNumber 101 = .ok (.ifCond .ne 9, 3) := dk_154 (by decide +kernel)
theorem dX12_needNumber_104 : decode cX12_needNumber 104 = .ok (.iload 4, 2) := dk_21 (by decide +kernel)
theorem dX12_needNumber_106 : decode cX12_needNumber 106 = .ok (.ineg, 1) := dk_116 (by decide +kernel)
theorem dX12_needNumber_107 : decode cX12_needNumber 107 = .ok (.goto 5, 3) := dk_167 (by decide +kernel)
theorem dX12_needNumber_110 : decode cX12_needNumber 110 = .ok (.iload 4, 2) := dk_21 (by decide +kernel)
theorem dX12_needNumber_112 : decode cX12_needNumber 112 = .ok (.ireturn, 1) := dk_172 (by decide +kernel)
def wsRneedNa : List Cond := .code yX12_needNumber cX12_needNumber 5 (some .int) :: ([.fieldLink RX12 239 "OptimaWorksModel" "needOf" "[I", .fieldLink RX12 236 "OptimaWorksModel" "needKind" "[I", .fieldLink RX12 203 "OptimaWorksModel" "wayNumber" "[I", .fieldLink RX12 206 "OptimaWorksModel" "waySign" "[I"] ++ wsX120)
theorem iwsRneedNa_in12 : ∀ w ∈ wsX120, w ∈ wsRneedNa := fun _ h => List.mem_cons_of_mem _ (List.mem_append_right _ h)
theorem gdwsRneedNa : wsRneedNa.all goodWord = true := gdC rfl (gdA (by decide +kernel : ([.fieldLink RX12 239 "OptimaWorksModel" "needOf" "[I", .fieldLink RX12 236 "OptimaWorksModel" "needKind" "[I", .fieldLink RX12 203 "OptimaWorksModel" "wayNumber" "[I", .fieldLink RX12 206 "OptimaWorksModel" "waySign" "[I"] : List Cond).all goodWord = true) gdwsX120)
theorem hm_r_X12_needNumbera_0 : (.fieldLink RX12 236 "OptimaWorksModel" "needKind" "[I" : Cond) ∈ wsRneedNa := by decide +kernel
set_option maxHeartbeats 4000000 in
set_option maxRecDepth 100000 in
/-- needNumber(i, k) -/
theorem r_X12_needNumbera (l : Launch) (dC : Nat → ClassId) (dI : Nat → Nat → Nat) (a : Nat → Nat) (k : Nat → ClassId) (h0 : Nat) (vi : Nat → Int32) (vj : Nat → Int64) (vF : Nat → Nat → Int32) (vG : Nat → Nat → Int64) (iN : Nat) (vn : Nat) (mr : Nat) (z : Nat) (nd : Nat) (kn : Nat) (gq : Nat) (hN : NdO (vF 71) (vF 72) vn mr z nd) (hvn8 : vn ≤ 8) (hmr12 : mr ≤ 12) (hiN : iN < nd) (hM : MdlB vF gq) (hkn : kn < vn) (sz : Nat) : Met l yX12_needNumber wsRneedNa ({ frames := 0, cells := 0, slots := 0, locals := 0 }) (va_Pc [.ref h0, .int (nI iN), .int (nI kn)] (fun U => U.heap.size = sz ∧ va_P (dC, dI) vwCl (WR a k h0 vi vj vF vG) U.heap ∧ va_K (dC, dI) vwCl (tX12 k) U ∧ va_D (fun _ => True) (WR a k h0 vi vj vF vG))) (va_Qi (fun (r : Int32) (u : Unit) => ((vF 71 iN = 0 ∧ (r).toInt.natAbs ≤ 99) ∨ (¬ vF 71 iN = 0 ∧ (r).toInt.natAbs ≤ 1))) (fun (u : Unit) t => va_P (dC, dI) vwCl (WR a k h0 vi vj vF vG) t.heap ∧ va_D (va_A (WR a k h0 vi vj vF vG) sz) (WR a k h0 vi vj vF vG)) (va_A (WR a k h0 vi vj vF vG) sz)) 0 0 (va_A (WR a k h0 vi vj vF vG) sz) := by
  refine Met.ofW (cc := cX12_needNumber) (maxL := 5) (ret := (some .int)) (by decide) rfl ?_
  intro p e s m args below meth c s₁ B hml hv
  obtain ⟨rfl, hsz, hP, hK, hD0⟩ := hv
  have hx := B.exec
  have hb := B.bytes
  have hr := B.returns
  have hts := atoms_spec (ws := wsRneedNa) B.pre
  have hown : s.vm.findClass RX12 = some m.cls := findClass_of_methodNamed B.named
  have hlocks := B.notSynchronized
  subst hsz
  have hD := hD0.self (sz := s.heap.size)
  generalize hAe : va_A (WR a k h0 vi vj vF vG) s.heap.size = A at hD ⊢
  have hA : ∀ q : Nat, s.heap.size ≤ q → A q := fun q h => by rw [← hAe]; exact Or.inr h
  have hS : va_S A s.heap s.heap [] := va_S.rf
  have hl := lv_entry ([.ref h0, .int (nI iN), .int (nI kn)]) (n := 5) (Nat.le_of_ble_eq_true rfl)
  rw [lg_entry_eq]
  generalize (lg_sl ([.ref h0, .int (nI iN), .int (nI kn)]) ++ List.replicate (5 - (lg_sl ([.ref h0, .int (nI iN), .int (nI kn)])).length) Slot.unset).toArray = ls at hl ⊢
  have hl : lv_has ls 5 [(0, .ref h0), (1, .int (nI iN)), (2, .int (nI kn))] := hl
  obtain ⟨o, ho2, ho1⟩ := hN.any hiN
  have hn28 : nd ≤ 28 := by have h1 := hN.1; have h2 := hN.2.2.1; omega
  refine lv_aload_n hx hb dX12_needNumber_0 rfl (lv_at hl 0 rfl) ?_
  refine va_get (D := (dC, dI)) (ci := 12) (v := .ref (a 72)) (C := RX12) (T := TX12) (N := 163) (fs := fM (vS a vi vj)) hx hb hts iwsRneedNa_in12 hown hK hP 0 rfl rfl 121 (by decide) (hts (.fieldLink RX12 239 "OptimaWorksModel" "needOf" "[I") (by decide +kernel)) (fun _ h9 => h9) rfl dX12_needNumber_1 ?_
  refine lv_iload_n hx hb dX12_needNumber_4 rfl (lv_at hl 1 rfl) ?_
  refine va_iald (cA := k 72) (n := 28) (f := (vF 72)) hx hb hK hP 73 72 (WR_get 72 (by decide)) (TR_get 72 (by decide)) (vp_in_nI (show iN < 28 by omega) (by omega)) dX12_needNumber_5 ?_
  refine lv_topi (fun y1 hy1 => ?_)
  obtain rfl : ((vF 72) iN) = y1 := (hy1.trans (by rw [nI_clamp (by omega)])).symm
  refine lv_topi (fun y2 hy2 => ?_)
  obtain rfl : (nI o) = y2 := (hy2.trans (ho2)).symm
  refine lv_istore_n hx hb dX12_needNumber_6 rfl hl (by decide) rfl (fun ls (hl : lv_has ls _ ([(3, .int (nI o)), (0, .ref h0), (1, .int (nI iN)), (2, .int (nI kn))])) => ?_)
  refine lv_aload_n hx hb dX12_needNumber_7 rfl (lv_at hl 1 rfl) ?_
  refine va_get (D := (dC, dI)) (ci := 12) (v := .ref (a 71)) (C := RX12) (T := TX12) (N := 163) (fs := fM (vS a vi vj)) hx hb hts iwsRneedNa_in12 hown hK hP 0 rfl rfl 120 (by decide) (hts _ hm_r_X12_needNumbera_0) (fun _ h9 => h9) rfl dX12_needNumber_8 ?_
  refine lv_iload_n hx hb dX12_needNumber_11 rfl (lv_at hl 2 rfl) ?_
  refine va_iald (cA := k 71) (n := 28) (f := (vF 71)) hx hb hK hP 72 71 (WR_get 71 (by decide)) (TR_get 71 (by decide)) (vp_in_nI (show iN < 28 by omega) (by omega)) dX12_needNumber_12 ?_
  refine lv_topi (fun y3 hy3 => ?_)
  obtain rfl : ((vF 71) iN) = y3 := (hy3.trans (by rw [nI_clamp (by omega)])).symm
  refine lv_iconst (v := 1) hx hb dX12_needNumber_13 (by decide) ?_
  refine lv_icmp_ne (tgt := 42) hx hb dX12_needNumber_14 (by decide) (fun c_14 => ?_) (fun c_14 => ?_)
  · have t_14 : (((vF 71) iN)).toInt ≠ 1 := toI_ne c_14 rfl (by decide)
    refine lv_aload_n hx hb dX12_needNumber_42 rfl (lv_at hl 1 rfl) ?_
    refine va_get (D := (dC, dI)) (ci := 12) (v := .ref (a 71)) (C := RX12) (T := TX12) (N := 163) (fs := fM (vS a vi vj)) hx hb hts iwsRneedNa_in12 hown hK hP 0 rfl rfl 120 (by decide) (hts _ hm_r_X12_needNumbera_0) (fun _ h9 => h9) rfl dX12_needNumber_43 ?_
    refine lv_iload_n hx hb dX12_needNumber_46 rfl (lv_at hl 2 rfl) ?_
    refine va_iald (cA := k 71) (n := 28) (f := (vF 71)) hx hb hK hP 72 71 (WR_get 71 (by decide)) (TR_get 71 (by decide)) (vp_in_nI (show iN < 28 by omega) (by omega)) dX12_needNumber_47 ?_
    refine lv_topi (fun y4 hy4 => ?_)
    obtain rfl : ((vF 71) iN) = y4 := (hy4.trans (by rw [nI_clamp (by omega)])).symm
    refine lv_iconst (v := 2) hx hb dX12_needNumber_48 (by decide) ?_
    refine lv_icmp_ne (tgt := 78) hx hb dX12_needNumber_49 (by decide) (fun c_49 => ?_) (fun c_49 => ?_)
    · have t_49 : (((vF 71) iN)).toInt ≠ 2 := toI_ne c_49 rfl (by decide)
      have h710 : vF 71 iN = 0 := by rcases ho1 with h9 | h9; (exact h9.1); (exfalso; by_cases e9 : iN < z; (exact h9.1 (hN.2.2.2.1 iN e9).1); (rcases (hN.2.2.2.2 iN (by omega) hiN).1 with h8 | h8; (exact c_14 h8); (exact c_49 h8)))
      have ho3 : o < mr := by rcases ho1 with h9 | h9; (exact h9.2); (exact absurd h710 h9.1)
      refine lv_aload_n hx hb dX12_needNumber_78 rfl (lv_at hl 1 rfl) ?_
      refine va_get (D := (dC, dI)) (ci := 12) (v := .ref (a 60)) (C := RX12) (T := TX12) (N := 163) (fs := fM (vS a vi vj)) hx hb hts iwsRneedNa_in12 hown hK hP 0 rfl rfl 100 (by decide) (hts (.fieldLink RX12 203 "OptimaWorksModel" "wayNumber" "[I") (by decide +kernel)) (fun _ h9 => h9) rfl dX12_needNumber_79 ?_
      refine lv_bipush (v := 27) hx hb dX12_needNumber_82 (by decide) ?_
      refine lv_iload_n hx hb dX12_needNumber_84 rfl (lv_at hl 0 rfl) ?_
      refine lv_imul hx hb dX12_needNumber_85 ?_
      refine lv_topi (fun y5 hy5 => ?_)
      obtain rfl : (nI (27 * o)) = y5 := (hy5.trans (pk_mul 27 o)).symm
      refine lv_iconst (v := 1) hx hb dX12_needNumber_86 (by decide) ?_
      refine lv_iadd hx hb dX12_needNumber_87 ?_
      refine lv_topi (fun y6 hy6 => ?_)
      obtain rfl : (nI ((27 * o) + 1)) = y6 := (hy6.trans (nI_add (27 * o) 1)).symm
      refine lv_iload_n hx hb dX12_needNumber_88 rfl (lv_at hl 3 rfl) ?_
      refine lv_iadd hx hb dX12_needNumber_89 ?_
      refine lv_topi (fun y7 hy7 => ?_)
      obtain rfl : (nI (((27 * o) + 1) + kn)) = y7 := (hy7.trans (nI_add ((27 * o) + 1) kn)).symm
      refine va_iald (cA := k 60) (n := 351) (f := (vF 60)) hx hb hK hP 61 60 (WR_get 60 (by decide)) (TR_get 60 (by decide)) (vp_in_nI (show (((27 * o) + 1) + kn) < 351 by omega) (by omega)) dX12_needNumber_90 ?_
      refine lv_topi (fun y8 hy8 => ?_)
      obtain rfl : ((vF 60) (((27 * o) + 1) + kn)) = y8 := (hy8.trans (by rw [nI_clamp (by omega)])).symm
      refine lv_istore hx hb dX12_needNumber_91 hl (by decide) rfl (fun ls (hl : lv_has ls _ ([(4, .int ((vF 60) (((27 * o) + 1) + kn))), (3, .int (nI o)), (0, .ref h0), (1, .int (nI iN)), (2, .int (nI kn))])) => ?_)
      refine lv_aload_n hx hb dX12_needNumber_93 rfl (lv_at hl 2 rfl) ?_
      refine va_get (D := (dC, dI)) (ci := 12) (v := .ref (a 61)) (C := RX12) (T := TX12) (N := 163) (fs := fM (vS a vi vj)) hx hb hts iwsRneedNa_in12 hown hK hP 0 rfl rfl 101 (by decide) (hts (.fieldLink RX12 206 "OptimaWorksModel" "waySign" "[I") (by decide +kernel)) (fun _ h9 => h9) rfl dX12_needNumber_94 ?_
      refine lv_iconst (v := 3) hx hb dX12_needNumber_97 (by decide) ?_
      refine lv_iload_n hx hb dX12_needNumber_98 rfl (lv_at hl 1 rfl) ?_
      refine lv_imul hx hb dX12_needNumber_99 ?_
      refine lv_topi (fun y9 hy9 => ?_)
      obtain rfl : (nI (3 * o)) = y9 := (hy9.trans (pk_mul 3 o)).symm
      refine va_iald (cA := k 61) (n := 39) (f := (vF 61)) hx hb hK hP 62 61 (WR_get 61 (by decide)) (TR_get 61 (by decide)) (vp_in_nI (show (3 * o) < 39 by omega) (by omega)) dX12_needNumber_100 ?_
      refine lv_topi (fun y10 hy10 => ?_)
      obtain rfl : ((vF 61) (3 * o)) = y10 := (hy10.trans (by rw [nI_clamp (by omega)])).symm
      refine lv_if_ne (tgt := 110) hx hb dX12_needNumber_101 (by decide) (fun c_101 => ?_) (fun c_101 => ?_)
      · have t_101 : (((vF 61) (3 * o))).toInt ≠ 0 := toI_ne c_101 rfl (by decide)
        refine lv_iload hx hb dX12_needNumber_110 (lv_at hl 0 rfl) ?_
        refine W.widen (k := 0) (n := 0) (by decide +kernel) (by decide +kernel) ?_
        exact W.iret (v := ((vF 60) (((27 * o) + 1) + kn))) hx hb hr (fun t9_ ht hW => ⟨⟨((vF 60) (((27 * o) + 1) + kn)), (), rfl, by (try dsimp only); (have b9 := (hM.2.2.2.1 (3 * o) kn (by omega) (by omega))); (rw [show 9 * (3 * o) + 1 + kn = 27 * o + 1 + kn by omega] at b9); exact Or.inl ⟨h710, by omega⟩, by rw [ht]; exact hP, hD⟩, hS.F ht⟩) hS.2.2 dX12_needNumber_112
      · have t_101 : (((vF 61) (3 * o))).toInt = 0 := toI_nne c_101 rfl (by decide)
        refine lv_iload hx hb dX12_needNumber_104 (lv_at hl 0 rfl) ?_
        refine lv_ineg hx hb dX12_needNumber_106 ?_
        refine lv_goto (tgt := 112) hx hb dX12_needNumber_107 (by decide) ?_
        refine W.widen (k := 0) (n := 0) (by decide +kernel) (by decide +kernel) ?_
        exact W.iret (v := (-((vF 60) (((27 * o) + 1) + kn)))) hx hb hr (fun t9_ ht hW => ⟨⟨(-((vF 60) (((27 * o) + 1) + kn))), (), rfl, by (try dsimp only); (have b9 := (hM.2.2.2.1 (3 * o) kn (by omega) (by omega))); (rw [show 9 * (3 * o) + 1 + kn = 27 * o + 1 + kn by omega] at b9); exact Or.inl ⟨h710, (neg32 (b := 99) (by omega) (by decide)).1⟩, by rw [ht]; exact hP, hD⟩, hS.F ht⟩) hS.2.2 dX12_needNumber_112
    · have t_49 : (((vF 71) iN)).toInt = 2 := toI_nne c_49 rfl (by decide)
      refine lv_iload_n hx hb dX12_needNumber_52 rfl (lv_at hl 3 rfl) ?_
      refine lv_iconst (v := (-1)) hx hb dX12_needNumber_53 (by decide) ?_
      refine lv_icmp_ne (tgt := 67) hx hb dX12_needNumber_54 (by decide) (fun c_54 => ?_) (fun c9 => False.elim (by (have h9 := nI_toInt (n := kn) (by omega)); rw [c9] at h9; (have h8 : ((-1 : Int32)).toInt = -1 := by decide); omega))
      have t_54 : ((kn : Nat) : Int) ≠ -1 := toI_ne c_54 (nI_toInt (by omega)) (by decide)
      refine lv_iload_n hx hb dX12_needNumber_67 rfl (lv_at hl 3 rfl) ?_
      refine lv_iload_n hx hb dX12_needNumber_68 rfl (lv_at hl 0 rfl) ?_
      refine lv_icmp_ne (tgt := 76) hx hb dX12_needNumber_69 (by decide) (fun c_69 => ?_) (fun c_69 => ?_)
      · have t_69 : ((kn : Nat) : Int) ≠ ((o : Nat) : Int) := toI_ne c_69 (nI_toInt (by omega)) (nI_toInt (by omega))
        refine lv_iconst (v := 0) hx hb dX12_needNumber_76 (by decide) ?_
        refine W.widen (k := 0) (n := 0) (by decide +kernel) (by decide +kernel) ?_
        exact W.iret (v := 0) hx hb hr (fun t9_ ht hW => ⟨⟨0, (), rfl, by (try dsimp only); exact Or.inr ⟨fun h9 => by rw [c_49] at h9; exact absurd h9 (by decide), by decide⟩, by rw [ht]; exact hP, hD⟩, hS.F ht⟩) hS.2.2 dX12_needNumber_77
      · have t_69 : ((kn : Nat) : Int) = ((o : Nat) : Int) := toI_nne c_69 (nI_toInt (by omega)) (nI_toInt (by omega))
        refine lv_iconst (v := (-1)) hx hb dX12_needNumber_72 (by decide) ?_
        refine lv_goto (tgt := 77) hx hb dX12_needNumber_73 (by decide) ?_
        refine W.widen (k := 0) (n := 0) (by decide +kernel) (by decide +kernel) ?_
        exact W.iret (v := (-1)) hx hb hr (fun t9_ ht hW => ⟨⟨(-1), (), rfl, by (try dsimp only); exact Or.inr ⟨fun h9 => by rw [c_49] at h9; exact absurd h9 (by decide), by decide⟩, by rw [ht]; exact hP, hD⟩, hS.F ht⟩) hS.2.2 dX12_needNumber_77
  · have t_14 : (((vF 71) iN)).toInt = 1 := toI_nne c_14 rfl (by decide)
    refine lv_iload_n hx hb dX12_needNumber_17 rfl (lv_at hl 3 rfl) ?_
    refine lv_iconst (v := (-1)) hx hb dX12_needNumber_18 (by decide) ?_
    refine lv_icmp_ne (tgt := 31) hx hb dX12_needNumber_19 (by decide) (fun c_19 => ?_) (fun c9 => False.elim (by (have h9 := nI_toInt (n := kn) (by omega)); rw [c9] at h9; (have h8 : ((-1 : Int32)).toInt = -1 := by decide); omega))
    have t_19 : ((kn : Nat) : Int) ≠ -1 := toI_ne c_19 (nI_toInt (by omega)) (by decide)
    refine lv_iload_n hx hb dX12_needNumber_31 rfl (lv_at hl 3 rfl) ?_
    refine lv_iload_n hx hb dX12_needNumber_32 rfl (lv_at hl 0 rfl) ?_
    refine lv_icmp_ne (tgt := 40) hx hb dX12_needNumber_33 (by decide) (fun c_33 => ?_) (fun c_33 => ?_)
    · have t_33 : ((kn : Nat) : Int) ≠ ((o : Nat) : Int) := toI_ne c_33 (nI_toInt (by omega)) (nI_toInt (by omega))
      refine lv_iconst (v := 0) hx hb dX12_needNumber_40 (by decide) ?_
      refine W.widen (k := 0) (n := 0) (by decide +kernel) (by decide +kernel) ?_
      exact W.iret (v := 0) hx hb hr (fun t9_ ht hW => ⟨⟨0, (), rfl, by (try dsimp only); exact Or.inr ⟨fun h9 => by rw [c_14] at h9; exact absurd h9 (by decide), by decide⟩, by rw [ht]; exact hP, hD⟩, hS.F ht⟩) hS.2.2 dX12_needNumber_41
    · have t_33 : ((kn : Nat) : Int) = ((o : Nat) : Int) := toI_nne c_33 (nI_toInt (by omega)) (nI_toInt (by omega))
      refine lv_iconst (v := 1) hx hb dX12_needNumber_36 (by decide) ?_
      refine lv_goto (tgt := 41) hx hb dX12_needNumber_37 (by decide) ?_
      refine W.widen (k := 0) (n := 0) (by decide +kernel) (by decide +kernel) ?_
      exact W.iret (v := 1) hx hb hr (fun t9_ ht hW => ⟨⟨1, (), rfl, by (try dsimp only); exact Or.inr ⟨fun h9 => by rw [c_14] at h9; exact absurd h9 (by decide), by decide⟩, by rw [ht]; exact hP, hD⟩, hS.F ht⟩) hS.2.2 dX12_needNumber_41
theorem dX12_needNumber_22 : decode cX12_needNumber 22 = .ok (.aload_n 0, 1) := dk_42 (by decide +kernel)
theorem dX12_needNumber_23 : decode cX12_needNumber 23 = .ok (.getfield 191, 3) := dk_180 (by decide +kernel)
theorem dX12_needNumber_26 : decode cX12_needNumber 26 = .ok (.iload_n 3, 1) := dk_29 (by decide +kernel)
theorem dX12_needNumber_27 : decode cX12_needNumber 27 = .ok (.iaload, 1) := dk_46 (by decide +kernel)
theorem dX12_needNumber_28 : decode cX12_needNumber 28 = .ok (.goto 13, 3) := dk_167 (by decide +kernel)
theorem dX12_needNumber_57 : decode cX12_needNumber 57 = .ok (.aload_n 0, 1) := dk_42 (by decide +kernel)
theorem dX12_needNumber_58 : decode cX12_needNumber 58 = .ok (.getfield 194, 3) := dk_180 (by decide +kernel)
theorem dX12_needNumber_61 : decode cX12_needNumber 61 = .ok (.iload_n 3, 1) := dk_29 (by decide +kernel)
theorem dX12_needNumber_62 : decode cX12_needNumber 62 = .ok (.iaload, 1) := dk_46 (by decide +kernel)
theorem dX12_needNumber_63 : decode cX12_needNumber 63 = .ok (.ineg, 1) := dk_116 (by decide +kernel)
theorem dX12_needNumber_64 : decode cX12_needNumber 64 = .ok (.goto 13, 3) := dk_167 (by decide +kernel)
def wsRneedNb : List Cond := .code yX12_needNumber cX12_needNumber 5 (some .int) :: ([.fieldLink RX12 239 "OptimaWorksModel" "needOf" "[I", .fieldLink RX12 236 "OptimaWorksModel" "needKind" "[I", .fieldLink RX12 203 "OptimaWorksModel" "wayNumber" "[I", .fieldLink RX12 206 "OptimaWorksModel" "waySign" "[I", .fieldLink RX12 194 "OptimaWorksModel" "high" "[I", .fieldLink RX12 191 "OptimaWorksModel" "low" "[I"] ++ wsX120)
theorem iwsRneedNb_in12 : ∀ w ∈ wsX120, w ∈ wsRneedNb := fun _ h => List.mem_cons_of_mem _ (List.mem_append_right _ h)
theorem gdwsRneedNb : wsRneedNb.all goodWord = true := gdC rfl (gdA (by decide +kernel : ([.fieldLink RX12 239 "OptimaWorksModel" "needOf" "[I", .fieldLink RX12 236 "OptimaWorksModel" "needKind" "[I", .fieldLink RX12 203 "OptimaWorksModel" "wayNumber" "[I", .fieldLink RX12 206 "OptimaWorksModel" "waySign" "[I", .fieldLink RX12 194 "OptimaWorksModel" "high" "[I", .fieldLink RX12 191 "OptimaWorksModel" "low" "[I"] : List Cond).all goodWord = true) gdwsX120)
theorem hm_r_X12_needNumberb_0 : (.fieldLink RX12 236 "OptimaWorksModel" "needKind" "[I" : Cond) ∈ wsRneedNb := by decide +kernel
set_option maxHeartbeats 4000000 in
set_option maxRecDepth 100000 in
/-- needNumber(i, NONE) -/
theorem r_X12_needNumberb (l : Launch) (dC : Nat → ClassId) (dI : Nat → Nat → Nat) (a : Nat → Nat) (k : Nat → ClassId) (h0 : Nat) (vi : Nat → Int32) (vj : Nat → Int64) (vF : Nat → Nat → Int32) (vG : Nat → Nat → Int64) (iN : Nat) (vn : Nat) (mr : Nat) (z : Nat) (nd : Nat) (gq : Nat) (hN : NdO (vF 71) (vF 72) vn mr z nd) (hvn8 : vn ≤ 8) (hmr12 : mr ≤ 12) (hiN : iN < nd) (hM : MdlB vF gq) (sz : Nat) : Met l yX12_needNumber wsRneedNb ({ frames := 0, cells := 0, slots := 0, locals := 0 }) (va_Pc [.ref h0, .int (nI iN), .int (-1)] (fun U => U.heap.size = sz ∧ va_P (dC, dI) vwCl (WR a k h0 vi vj vF vG) U.heap ∧ va_K (dC, dI) vwCl (tX12 k) U ∧ va_D (fun _ => True) (WR a k h0 vi vj vF vG))) (va_Qi (fun (r : Int32) (u : Unit) => ((r).toInt.natAbs ≤ 99999)) (fun (u : Unit) t => va_P (dC, dI) vwCl (WR a k h0 vi vj vF vG) t.heap ∧ va_D (va_A (WR a k h0 vi vj vF vG) sz) (WR a k h0 vi vj vF vG)) (va_A (WR a k h0 vi vj vF vG) sz)) 0 0 (va_A (WR a k h0 vi vj vF vG) sz) := by
  refine Met.ofW (cc := cX12_needNumber) (maxL := 5) (ret := (some .int)) (by decide) rfl ?_
  intro p e s m args below meth c s₁ B hml hv
  obtain ⟨rfl, hsz, hP, hK, hD0⟩ := hv
  have hx := B.exec
  have hb := B.bytes
  have hr := B.returns
  have hts := atoms_spec (ws := wsRneedNb) B.pre
  have hown : s.vm.findClass RX12 = some m.cls := findClass_of_methodNamed B.named
  have hlocks := B.notSynchronized
  subst hsz
  have hD := hD0.self (sz := s.heap.size)
  generalize hAe : va_A (WR a k h0 vi vj vF vG) s.heap.size = A at hD ⊢
  have hA : ∀ q : Nat, s.heap.size ≤ q → A q := fun q h => by rw [← hAe]; exact Or.inr h
  have hS : va_S A s.heap s.heap [] := va_S.rf
  have hl := lv_entry ([.ref h0, .int (nI iN), .int (-1)]) (n := 5) (Nat.le_of_ble_eq_true rfl)
  rw [lg_entry_eq]
  generalize (lg_sl ([.ref h0, .int (nI iN), .int (-1)]) ++ List.replicate (5 - (lg_sl ([.ref h0, .int (nI iN), .int (-1)])).length) Slot.unset).toArray = ls at hl ⊢
  have hl : lv_has ls 5 [(0, .ref h0), (1, .int (nI iN)), (2, .int (-1))] := hl
  obtain ⟨o, ho2, ho1⟩ := hN.any hiN
  have hn28 : nd ≤ 28 := by have h1 := hN.1; have h2 := hN.2.2.1; omega
  refine lv_aload_n hx hb dX12_needNumber_0 rfl (lv_at hl 0 rfl) ?_
  refine va_get (D := (dC, dI)) (ci := 12) (v := .ref (a 72)) (C := RX12) (T := TX12) (N := 163) (fs := fM (vS a vi vj)) hx hb hts iwsRneedNb_in12 hown hK hP 0 rfl rfl 121 (by decide) (hts (.fieldLink RX12 239 "OptimaWorksModel" "needOf" "[I") (by decide +kernel)) (fun _ h9 => h9) rfl dX12_needNumber_1 ?_
  refine lv_iload_n hx hb dX12_needNumber_4 rfl (lv_at hl 1 rfl) ?_
  refine va_iald (cA := k 72) (n := 28) (f := (vF 72)) hx hb hK hP 73 72 (WR_get 72 (by decide)) (TR_get 72 (by decide)) (vp_in_nI (show iN < 28 by omega) (by omega)) dX12_needNumber_5 ?_
  refine lv_topi (fun y1 hy1 => ?_)
  obtain rfl : ((vF 72) iN) = y1 := (hy1.trans (by rw [nI_clamp (by omega)])).symm
  refine lv_topi (fun y2 hy2 => ?_)
  obtain rfl : (nI o) = y2 := (hy2.trans (ho2)).symm
  refine lv_istore_n hx hb dX12_needNumber_6 rfl hl (by decide) rfl (fun ls (hl : lv_has ls _ ([(3, .int (nI o)), (0, .ref h0), (1, .int (nI iN)), (2, .int (-1))])) => ?_)
  refine lv_aload_n hx hb dX12_needNumber_7 rfl (lv_at hl 1 rfl) ?_
  refine va_get (D := (dC, dI)) (ci := 12) (v := .ref (a 71)) (C := RX12) (T := TX12) (N := 163) (fs := fM (vS a vi vj)) hx hb hts iwsRneedNb_in12 hown hK hP 0 rfl rfl 120 (by decide) (hts _ hm_r_X12_needNumberb_0) (fun _ h9 => h9) rfl dX12_needNumber_8 ?_
  refine lv_iload_n hx hb dX12_needNumber_11 rfl (lv_at hl 2 rfl) ?_
  refine va_iald (cA := k 71) (n := 28) (f := (vF 71)) hx hb hK hP 72 71 (WR_get 71 (by decide)) (TR_get 71 (by decide)) (vp_in_nI (show iN < 28 by omega) (by omega)) dX12_needNumber_12 ?_
  refine lv_topi (fun y3 hy3 => ?_)
  obtain rfl : ((vF 71) iN) = y3 := (hy3.trans (by rw [nI_clamp (by omega)])).symm
  refine lv_iconst (v := 1) hx hb dX12_needNumber_13 (by decide) ?_
  refine lv_icmp_ne (tgt := 42) hx hb dX12_needNumber_14 (by decide) (fun c_14 => ?_) (fun c_14 => ?_)
  · have t_14 : (((vF 71) iN)).toInt ≠ 1 := toI_ne c_14 rfl (by decide)
    refine lv_aload_n hx hb dX12_needNumber_42 rfl (lv_at hl 1 rfl) ?_
    refine va_get (D := (dC, dI)) (ci := 12) (v := .ref (a 71)) (C := RX12) (T := TX12) (N := 163) (fs := fM (vS a vi vj)) hx hb hts iwsRneedNb_in12 hown hK hP 0 rfl rfl 120 (by decide) (hts _ hm_r_X12_needNumberb_0) (fun _ h9 => h9) rfl dX12_needNumber_43 ?_
    refine lv_iload_n hx hb dX12_needNumber_46 rfl (lv_at hl 2 rfl) ?_
    refine va_iald (cA := k 71) (n := 28) (f := (vF 71)) hx hb hK hP 72 71 (WR_get 71 (by decide)) (TR_get 71 (by decide)) (vp_in_nI (show iN < 28 by omega) (by omega)) dX12_needNumber_47 ?_
    refine lv_topi (fun y4 hy4 => ?_)
    obtain rfl : ((vF 71) iN) = y4 := (hy4.trans (by rw [nI_clamp (by omega)])).symm
    refine lv_iconst (v := 2) hx hb dX12_needNumber_48 (by decide) ?_
    refine lv_icmp_ne (tgt := 78) hx hb dX12_needNumber_49 (by decide) (fun c_49 => ?_) (fun c_49 => ?_)
    · have t_49 : (((vF 71) iN)).toInt ≠ 2 := toI_ne c_49 rfl (by decide)
      have h710 : vF 71 iN = 0 := by rcases ho1 with h9 | h9; (exact h9.1); (exfalso; by_cases e9 : iN < z; (exact h9.1 (hN.2.2.2.1 iN e9).1); (rcases (hN.2.2.2.2 iN (by omega) hiN).1 with h8 | h8; (exact c_14 h8); (exact c_49 h8)))
      have ho3 : o < mr := by rcases ho1 with h9 | h9; (exact h9.2); (exact absurd h710 h9.1)
      refine lv_aload_n hx hb dX12_needNumber_78 rfl (lv_at hl 1 rfl) ?_
      refine va_get (D := (dC, dI)) (ci := 12) (v := .ref (a 60)) (C := RX12) (T := TX12) (N := 163) (fs := fM (vS a vi vj)) hx hb hts iwsRneedNb_in12 hown hK hP 0 rfl rfl 100 (by decide) (hts (.fieldLink RX12 203 "OptimaWorksModel" "wayNumber" "[I") (by decide +kernel)) (fun _ h9 => h9) rfl dX12_needNumber_79 ?_
      refine lv_bipush (v := 27) hx hb dX12_needNumber_82 (by decide) ?_
      refine lv_iload_n hx hb dX12_needNumber_84 rfl (lv_at hl 0 rfl) ?_
      refine lv_imul hx hb dX12_needNumber_85 ?_
      refine lv_topi (fun y5 hy5 => ?_)
      obtain rfl : (nI (27 * o)) = y5 := (hy5.trans (pk_mul 27 o)).symm
      refine lv_iconst (v := 1) hx hb dX12_needNumber_86 (by decide) ?_
      refine lv_iadd hx hb dX12_needNumber_87 ?_
      refine lv_topi (fun y6 hy6 => ?_)
      obtain rfl : (nI ((27 * o) + 1)) = y6 := (hy6.trans (nI_add (27 * o) 1)).symm
      refine lv_iload_n hx hb dX12_needNumber_88 rfl (lv_at hl 3 rfl) ?_
      refine lv_iadd hx hb dX12_needNumber_89 ?_
      refine lv_topi (fun y7 hy7 => ?_)
      obtain rfl : (nI (27 * o)) = y7 := (hy7.trans (sb_m1 (by omega))).symm
      refine va_iald (cA := k 60) (n := 351) (f := (vF 60)) hx hb hK hP 61 60 (WR_get 60 (by decide)) (TR_get 60 (by decide)) (vp_in_nI (show (27 * o) < 351 by omega) (by omega)) dX12_needNumber_90 ?_
      refine lv_topi (fun y8 hy8 => ?_)
      obtain rfl : ((vF 60) (27 * o)) = y8 := (hy8.trans (by rw [nI_clamp (by omega)])).symm
      refine lv_istore hx hb dX12_needNumber_91 hl (by decide) rfl (fun ls (hl : lv_has ls _ ([(4, .int ((vF 60) (27 * o))), (3, .int (nI o)), (0, .ref h0), (1, .int (nI iN)), (2, .int (-1))])) => ?_)
      refine lv_aload_n hx hb dX12_needNumber_93 rfl (lv_at hl 2 rfl) ?_
      refine va_get (D := (dC, dI)) (ci := 12) (v := .ref (a 61)) (C := RX12) (T := TX12) (N := 163) (fs := fM (vS a vi vj)) hx hb hts iwsRneedNb_in12 hown hK hP 0 rfl rfl 101 (by decide) (hts (.fieldLink RX12 206 "OptimaWorksModel" "waySign" "[I") (by decide +kernel)) (fun _ h9 => h9) rfl dX12_needNumber_94 ?_
      refine lv_iconst (v := 3) hx hb dX12_needNumber_97 (by decide) ?_
      refine lv_iload_n hx hb dX12_needNumber_98 rfl (lv_at hl 1 rfl) ?_
      refine lv_imul hx hb dX12_needNumber_99 ?_
      refine lv_topi (fun y9 hy9 => ?_)
      obtain rfl : (nI (3 * o)) = y9 := (hy9.trans (pk_mul 3 o)).symm
      refine va_iald (cA := k 61) (n := 39) (f := (vF 61)) hx hb hK hP 62 61 (WR_get 61 (by decide)) (TR_get 61 (by decide)) (vp_in_nI (show (3 * o) < 39 by omega) (by omega)) dX12_needNumber_100 ?_
      refine lv_topi (fun y10 hy10 => ?_)
      obtain rfl : ((vF 61) (3 * o)) = y10 := (hy10.trans (by rw [nI_clamp (by omega)])).symm
      refine lv_if_ne (tgt := 110) hx hb dX12_needNumber_101 (by decide) (fun c_101 => ?_) (fun c_101 => ?_)
      · have t_101 : (((vF 61) (3 * o))).toInt ≠ 0 := toI_ne c_101 rfl (by decide)
        refine lv_iload hx hb dX12_needNumber_110 (lv_at hl 0 rfl) ?_
        refine W.widen (k := 0) (n := 0) (by decide +kernel) (by decide +kernel) ?_
        exact W.iret (v := ((vF 60) (27 * o))) hx hb hr (fun t9_ ht hW => ⟨⟨((vF 60) (27 * o)), (), rfl, by (try dsimp only); (have b9 := hM.2.2.1 (3 * o) (by omega)); (rw [show 9 * (3 * o) = 27 * o by omega] at b9); omega, by rw [ht]; exact hP, hD⟩, hS.F ht⟩) hS.2.2 dX12_needNumber_112
      · have t_101 : (((vF 61) (3 * o))).toInt = 0 := toI_nne c_101 rfl (by decide)
        refine lv_iload hx hb dX12_needNumber_104 (lv_at hl 0 rfl) ?_
        refine lv_ineg hx hb dX12_needNumber_106 ?_
        refine lv_goto (tgt := 112) hx hb dX12_needNumber_107 (by decide) ?_
        refine W.widen (k := 0) (n := 0) (by decide +kernel) (by decide +kernel) ?_
        exact W.iret (v := (-((vF 60) (27 * o)))) hx hb hr (fun t9_ ht hW => ⟨⟨(-((vF 60) (27 * o))), (), rfl, by (try dsimp only); (have b9 := hM.2.2.1 (3 * o) (by omega)); (rw [show 9 * (3 * o) = 27 * o by omega] at b9); exact (neg32 (b := 99999) (by omega) (by decide)).1, by rw [ht]; exact hP, hD⟩, hS.F ht⟩) hS.2.2 dX12_needNumber_112
    · have t_49 : (((vF 71) iN)).toInt = 2 := toI_nne c_49 rfl (by decide)
      refine lv_iload_n hx hb dX12_needNumber_52 rfl (lv_at hl 3 rfl) ?_
      refine lv_iconst (v := (-1)) hx hb dX12_needNumber_53 (by decide) ?_
      refine lv_icmp_ne (tgt := 67) hx hb dX12_needNumber_54 (by decide) (fun c9 => absurd c9 (by decide)) (fun _ => ?_)
      have ho3 : o < vn := by rcases ho1 with h9 | h9; (exfalso; (have h8 := h9.1); rw [c_49] at h8; exact absurd h8 (by decide)); (exact h9.2)
      refine lv_aload_n hx hb dX12_needNumber_57 rfl (lv_at hl 1 rfl) ?_
      refine va_get (D := (dC, dI)) (ci := 12) (v := .ref (a 57)) (C := RX12) (T := TX12) (N := 163) (fs := fM (vS a vi vj)) hx hb hts iwsRneedNb_in12 hown hK hP 0 rfl rfl 97 (by decide) (hts (.fieldLink RX12 194 "OptimaWorksModel" "high" "[I") (by decide +kernel)) (fun _ h9 => h9) rfl dX12_needNumber_58 ?_
      refine lv_iload_n hx hb dX12_needNumber_61 rfl (lv_at hl 0 rfl) ?_
      refine va_iald (cA := k 57) (n := 9) (f := (vF 57)) hx hb hK hP 58 57 (WR_get 57 (by decide)) (TR_get 57 (by decide)) (vp_in_nI (show o < 9 by omega) (by omega)) dX12_needNumber_62 ?_
      refine lv_topi (fun y11 hy11 => ?_)
      obtain rfl : ((vF 57) o) = y11 := (hy11.trans (by rw [nI_clamp (by omega)])).symm
      refine lv_ineg hx hb dX12_needNumber_63 ?_
      refine lv_goto (tgt := 77) hx hb dX12_needNumber_64 (by decide) ?_
      refine W.widen (k := 0) (n := 0) (by decide +kernel) (by decide +kernel) ?_
      exact W.iret (v := (-((vF 57) o))) hx hb hr (fun t9_ ht hW => ⟨⟨(-((vF 57) o)), (), rfl, by (try dsimp only); (have b9 := hM.2.1 o (by omega)); exact (neg32 (b := 99999) (by omega) (by decide)).1, by rw [ht]; exact hP, hD⟩, hS.F ht⟩) hS.2.2 dX12_needNumber_77
  · have t_14 : (((vF 71) iN)).toInt = 1 := toI_nne c_14 rfl (by decide)
    refine lv_iload_n hx hb dX12_needNumber_17 rfl (lv_at hl 3 rfl) ?_
    refine lv_iconst (v := (-1)) hx hb dX12_needNumber_18 (by decide) ?_
    refine lv_icmp_ne (tgt := 31) hx hb dX12_needNumber_19 (by decide) (fun c9 => absurd c9 (by decide)) (fun _ => ?_)
    have ho3 : o < vn := by rcases ho1 with h9 | h9; (exfalso; (have h8 := h9.1); rw [c_14] at h8; exact absurd h8 (by decide)); (exact h9.2)
    refine lv_aload_n hx hb dX12_needNumber_22 rfl (lv_at hl 1 rfl) ?_
    refine va_get (D := (dC, dI)) (ci := 12) (v := .ref (a 56)) (C := RX12) (T := TX12) (N := 163) (fs := fM (vS a vi vj)) hx hb hts iwsRneedNb_in12 hown hK hP 0 rfl rfl 96 (by decide) (hts (.fieldLink RX12 191 "OptimaWorksModel" "low" "[I") (by decide +kernel)) (fun _ h9 => h9) rfl dX12_needNumber_23 ?_
    refine lv_iload_n hx hb dX12_needNumber_26 rfl (lv_at hl 0 rfl) ?_
    refine va_iald (cA := k 56) (n := 9) (f := (vF 56)) hx hb hK hP 57 56 (WR_get 56 (by decide)) (TR_get 56 (by decide)) (vp_in_nI (show o < 9 by omega) (by omega)) dX12_needNumber_27 ?_
    refine lv_topi (fun y12 hy12 => ?_)
    obtain rfl : ((vF 56) o) = y12 := (hy12.trans (by rw [nI_clamp (by omega)])).symm
    refine lv_goto (tgt := 41) hx hb dX12_needNumber_28 (by decide) ?_
    refine W.widen (k := 0) (n := 0) (by decide +kernel) (by decide +kernel) ?_
    exact W.iret (v := ((vF 56) o)) hx hb hr (fun t9_ ht hW => ⟨⟨((vF 56) o), (), rfl, by (try dsimp only); (have b9 := hM.1 o (by omega)); omega, by rw [ht]; exact hP, hD⟩, hS.F ht⟩) hS.2.2 dX12_needNumber_41
theorem dX12_spread_0 : decode cX12_spread 0 = .ok (.aload_n 0, 1) := dk_42 (by decide +kernel)
theorem dX12_spread_1 : decode cX12_spread 1 = .ok (.getfield 242, 3) := dk_180 (by decide +kernel)
theorem dX12_spread_4 : decode cX12_spread 4 = .ok (.iload_n 2, 1) := dk_28 (by decide +kernel)
theorem dX12_spread_5 : decode cX12_spread 5 = .ok (.iaload, 1) := dk_46 (by decide +kernel)
theorem dX12_spread_6 : decode cX12_spread 6 = .ok (.ifCond .ne 4, 3) := dk_154 (by decide +kernel)
theorem dX12_spread_9 : decode cX12_spread 9 = .ok (.return_, 1) := dk_177 (by decide +kernel)
theorem dX12_spread_10 : decode cX12_spread 10 = .ok (.aload_n 0, 1) := dk_42 (by decide +kernel)
theorem dX12_spread_11 : decode cX12_spread 11 = .ok (.aload_n 0, 1) := dk_42 (by decide +kernel)
theorem dX12_spread_12 : decode cX12_spread 12 = .ok (.iload_n 1, 1) := dk_27 (by decide +kernel)
theorem dX12_spread_13 : decode cX12_spread 13 = .ok (.aload_n 0, 1) := dk_42 (by decide +kernel)
theorem dX12_spread_14 : decode cX12_spread 14 = .ok (.getfield 245, 3) := dk_180 (by decide +kernel)
theorem dX12_spread_17 : decode cX12_spread 17 = .ok (.iload_n 2, 1) := dk_28 (by decide +kernel)
theorem dX12_spread_18 : decode cX12_spread 18 = .ok (.iaload, 1) := dk_46 (by decide +kernel)
theorem dX12_spread_19 : decode cX12_spread 19 = .ok (.invokevirtual 405, 3) := dk_182 (by decide +kernel)
theorem dX12_spread_22 : decode cX12_spread 22 = .ok (.iload_n 3, 1) := dk_29 (by decide +kernel)
theorem dX12_spread_23 : decode cX12_spread 23 = .ok (.i2l, 1) := dk_133 (by decide +kernel)
theorem dX12_spread_24 : decode cX12_spread 24 = .ok (.iload 4, 2) := dk_21 (by decide +kernel)
theorem dX12_spread_26 : decode cX12_spread 26 = .ok (.i2l, 1) := dk_133 (by decide +kernel)
theorem dX12_spread_27 : decode cX12_spread 27 = .ok (.lmul, 1) := dk_105 (by decide +kernel)
theorem dX12_spread_28 : decode cX12_spread 28 = .ok (.invokevirtual 369, 3) := dk_182 (by decide +kernel)
theorem dX12_spread_31 : decode cX12_spread 31 = .ok (.aload_n 0, 1) := dk_42 (by decide +kernel)
theorem dX12_spread_32 : decode cX12_spread 32 = .ok (.iload_n 2, 1) := dk_28 (by decide +kernel)
theorem dX12_spread_33 : decode cX12_spread 33 = .ok (.invokevirtual 900, 3) := dk_182 (by decide +kernel)
theorem dX12_spread_36 : decode cX12_spread 36 = .ok (.ifCond .eq 27, 3) := dk_153 (by decide +kernel)
theorem dX12_spread_39 : decode cX12_spread 39 = .ok (.aload_n 0, 1) := dk_42 (by decide +kernel)
theorem dX12_spread_40 : decode cX12_spread 40 = .ok (.aload_n 0, 1) := dk_42 (by decide +kernel)
theorem dX12_spread_41 : decode cX12_spread 41 = .ok (.iload_n 1, 1) := dk_27 (by decide +kernel)
theorem dX12_spread_42 : decode cX12_spread 42 = .ok (.aload_n 0, 1) := dk_42 (by decide +kernel)
theorem dX12_spread_43 : decode cX12_spread 43 = .ok (.getfield 245, 3) := dk_180 (by decide +kernel)
theorem dX12_spread_46 : decode cX12_spread 46 = .ok (.iload_n 2, 1) := dk_28 (by decide +kernel)
theorem dX12_spread_47 : decode cX12_spread 47 = .ok (.iaload, 1) := dk_46 (by decide +kernel)
theorem dX12_spread_48 : decode cX12_spread 48 = .ok (.iconst 1, 1) := dk_4 (by decide +kernel)
theorem dX12_spread_49 : decode cX12_spread 49 = .ok (.iadd, 1) := dk_96 (by decide +kernel)
theorem dX12_spread_50 : decode cX12_spread 50 = .ok (.invokevirtual 405, 3) := dk_182 (by decide +kernel)
theorem dX12_spread_53 : decode cX12_spread 53 = .ok (.iload_n 3, 1) := dk_29 (by decide +kernel)
theorem dX12_spread_54 : decode cX12_spread 54 = .ok (.ineg, 1) := dk_116 (by decide +kernel)
theorem dX12_spread_55 : decode cX12_spread 55 = .ok (.i2l, 1) := dk_133 (by decide +kernel)
theorem dX12_spread_56 : decode cX12_spread 56 = .ok (.iload 4, 2) := dk_21 (by decide +kernel)
theorem dX12_spread_58 : decode cX12_spread 58 = .ok (.i2l, 1) := dk_133 (by decide +kernel)
theorem dX12_spread_59 : decode cX12_spread 59 = .ok (.lmul, 1) := dk_105 (by decide +kernel)
theorem dX12_spread_60 : decode cX12_spread 60 = .ok (.invokevirtual 369, 3) := dk_182 (by decide +kernel)
theorem dX12_spread_63 : decode cX12_spread 63 = .ok (.return_, 1) := dk_177 (by decide +kernel)
def wsRX12_spread : List Cond := .code yX12_spread cX12_spread 5 none :: ([.fieldLink RX12 242 "OptimaWorksModel" "needKept" "[I", .fieldLink RX12 245 "OptimaWorksModel" "needColumn" "[I"] ++ wsX120 ++ (wsV RX12 405 RX12 yX12_at wsRX12_at) ++ (wsV RX12 369 RX12 yX12_put wsRX12_put) ++ (wsV RX12 900 RX12 yX12_isEqual wsRX12_isEqual))
theorem iwsRX12_spread_in12 : ∀ w ∈ wsX120, w ∈ wsRX12_spread := fun _ h => List.mem_cons_of_mem _ (List.mem_append_left _ (List.mem_append_left _ (List.mem_append_left _ (List.mem_append_right _ h))))
theorem gwsRX12_spread_0 : GoodIn wsRX12_spread (wsV RX12 405 RX12 yX12_at wsRX12_at) := goodIn_sub (fun _ h => List.mem_cons_of_mem _ (List.mem_append_left _ (List.mem_append_left _ (List.mem_append_right _ h)))) (gdV (by decide +kernel) gdwsRX12_at)
theorem gwsRX12_spread_1 : GoodIn wsRX12_spread (wsV RX12 369 RX12 yX12_put wsRX12_put) := goodIn_sub (fun _ h => List.mem_cons_of_mem _ (List.mem_append_left _ (List.mem_append_right _ h))) (gdV (by decide +kernel) gdwsRX12_put)
theorem gwsRX12_spread_2 : GoodIn wsRX12_spread (wsV RX12 900 RX12 yX12_isEqual wsRX12_isEqual) := goodIn_sub (fun _ h => List.mem_cons_of_mem _ (List.mem_append_right _ h)) (gdV (by decide +kernel) gdwsRX12_isEqual)
theorem gdwsRX12_spread : wsRX12_spread.all goodWord = true := gdC rfl (gdA (gdA (gdA (gdA (by decide +kernel : ([.fieldLink RX12 242 "OptimaWorksModel" "needKept" "[I", .fieldLink RX12 245 "OptimaWorksModel" "needColumn" "[I"] : List Cond).all goodWord = true) gdwsX120) (gdV (by decide +kernel) gdwsRX12_at)) (gdV (by decide +kernel) gdwsRX12_put)) (gdV (by decide +kernel) gdwsRX12_isEqual))
theorem hm_r_X12_spread_0 : (.fieldLink RX12 245 "OptimaWorksModel" "needColumn" "[I" : Cond) ∈ wsRX12_spread := by decide +kernel
set_option maxHeartbeats 4000000 in
set_option maxRecDepth 100000 in
/-- spread(r, i, v, how) -/
theorem r_X12_spread (l : Launch) (dC : Nat → ClassId) (dI : Nat → Nat → Nat) (a : Nat → Nat) (k : Nat → ClassId) (h0 : Nat) (vi : Nat → Int32) (vj : Nat → Int64) (vF : Nat → Nat → Int32) (vG : Nat → Nat → Int64) (rn : Nat) (vI : Int32) (hw : Int32) (hI : Int) (C : Nat) (bb : Nat → Nat) (iN : Nat) (vn : Nat) (mr : Nat) (z : Nat) (nd : Nat) (mg : Nat → Int) (hBg : Bg (vF 0) mg) (hN : NdO (vF 71) (vF 72) vn mr z nd) (hvn8 : vn ≤ 8) (hmr12 : mr ≤ 12) (hiN : iN < nd) (hC : vi 5 = nI C) (hC0 : 0 < C ∧ C ≤ 45) (hrn : 30 + rn * (C + 1) + C < 1000) (hcol : vF 74 iN = nI (ncS (ncw (vF 61) (vF 71) (vF 72) (vF 73)) iN)) (hlast : ncS (ncw (vF 61) (vF 71) (vF 72) (vF 73)) iN + (ncw (vF 61) (vF 71) (vF 72) (vF 73)) iN ≤ C - 1) (hhI : (hw).toInt = hI) (hI1 : hI = 1 ∨ hI = -1) (hvb : (vI).toInt.natAbs ≤ 99999) (hbb : ∀ j, ncS (ncw (vF 61) (vF 71) (vF 72) (vF 73)) iN ≤ j → j < ncS (ncw (vF 61) (vF 71) (vF 72) (vF 73)) iN + (ncw (vF 61) (vF 71) (vF 72) (vF 73)) iN → (vI).toInt.natAbs ≤ bb j) (hrow : RwB C mg rn bb) (sz : Nat) : Met l yX12_spread wsRX12_spread ({ frames := 1, cells := 0, slots := 0, locals := 27 }) (va_Pc [.ref h0, .int (nI rn), .int (nI iN), .int vI, .int hw] (fun U => U.heap.size = sz ∧ va_P (dC, dI) vwCl (WR a k h0 vi vj vF vG) U.heap ∧ va_K (dC, dI) vwCl (tX12 k) U ∧ va_D (fun _ => True) (WR a k h0 vi vj vF vG))) (va_Qv (fun (u : (Nat → Int32) × (Nat → Int)) => (Bg (u.1) (u.2)) ∧ (RwB C (u.2) rn bb) ∧ (∀ q, (q < 30 + rn * (C + 1) ∨ 30 + rn * (C + 1) + (C - 1) ≤ q) → (u.2) q = mg q)) (fun (u : (Nat → Int32) × (Nat → Int)) t => va_P (dC, dI) vwCl (WR a k h0 vi vj (fT vF 0 (u.1)) vG) t.heap ∧ va_D (va_A (WR a k h0 vi vj vF vG) sz) (WR a k h0 vi vj (fT vF 0 (u.1)) vG)) (va_A (WR a k h0 vi vj vF vG) sz)) 0 0 (va_A (WR a k h0 vi vj vF vG) sz) := by
  refine Met.ofW (cc := cX12_spread) (maxL := 5) (ret := none) (by decide) rfl ?_
  intro p e s m args below meth c s₁ B hml hv
  obtain ⟨rfl, hsz, hP, hK, hD0⟩ := hv
  have hx := B.exec
  have hb := B.bytes
  have hr := B.returns
  have hts := atoms_spec (ws := wsRX12_spread) B.pre
  have hown : s.vm.findClass RX12 = some m.cls := findClass_of_methodNamed B.named
  have hlocks := B.notSynchronized
  subst hsz
  have hD := hD0.self (sz := s.heap.size)
  generalize hAe : va_A (WR a k h0 vi vj vF vG) s.heap.size = A at hD ⊢
  have hA : ∀ q : Nat, s.heap.size ≤ q → A q := fun q h => by rw [← hAe]; exact Or.inr h
  have hS : va_S A s.heap s.heap [] := va_S.rf
  have hl := lv_entry ([.ref h0, .int (nI rn), .int (nI iN), .int vI, .int hw]) (n := 5) (Nat.le_of_ble_eq_true rfl)
  rw [lg_entry_eq]
  generalize (lg_sl ([.ref h0, .int (nI rn), .int (nI iN), .int vI, .int hw]) ++ List.replicate (5 - (lg_sl ([.ref h0, .int (nI rn), .int (nI iN), .int vI, .int hw])).length) Slot.unset).toArray = ls at hl ⊢
  have hl : lv_has ls 5 [(0, .ref h0), (1, .int (nI rn)), (2, .int (nI iN)), (3, .int vI), (4, .int hw)] := hl
  have hn28 : nd ≤ 28 := by have h1 := hN.1; have h2 := hN.2.2.1; omega
  refine lv_aload_n hx hb dX12_spread_0 rfl (lv_at hl 0 rfl) ?_
  refine va_get (D := (dC, dI)) (ci := 12) (v := .ref (a 73)) (C := RX12) (T := TX12) (N := 163) (fs := fM (vS a vi vj)) hx hb hts iwsRX12_spread_in12 hown hK hP 0 rfl rfl 122 (by decide) (hts (.fieldLink RX12 242 "OptimaWorksModel" "needKept" "[I") (by decide +kernel)) (fun _ h9 => h9) rfl dX12_spread_1 ?_
  refine lv_iload_n hx hb dX12_spread_4 rfl (lv_at hl 2 rfl) ?_
  refine va_iald (cA := k 73) (n := 28) (f := (vF 73)) hx hb hK hP 74 73 (WR_get 73 (by decide)) (TR_get 73 (by decide)) (vp_in_nI (show iN < 28 by omega) (by omega)) dX12_spread_5 ?_
  refine lv_topi (fun y1 hy1 => ?_)
  obtain rfl : ((vF 73) iN) = y1 := (hy1.trans (by rw [nI_clamp (by omega)])).symm
  refine lv_if_ne (tgt := 10) hx hb dX12_spread_6 (by decide) (fun c_6 => ?_) (fun c_6 => ?_)
  · have t_6 : (((vF 73) iN)).toInt ≠ 0 := toI_ne c_6 rfl (by decide)
    have hw1 : 1 ≤ (ncw (vF 61) (vF 71) (vF 72) (vF 73)) iN := by unfold ncw; rw [if_neg c_6]; split <;> omega
    have ea := mulI (x := vI) (y := hw)
    have bx : ((vI).toInt * hI).natAbs ≤ (vI).toInt.natAbs := by rcases hI1 with h | h <;> rw [h] <;> omega
    have hc45 : ncS (ncw (vF 61) (vF 71) (vF 72) (vF 73)) iN < 45 := by omega
    refine lv_aload_n hx hb dX12_spread_10 rfl (lv_at hl 0 rfl) ?_
    refine lv_aload_n hx hb dX12_spread_11 rfl (lv_at hl 0 rfl) ?_
    refine lv_iload_n hx hb dX12_spread_12 rfl (lv_at hl 1 rfl) ?_
    refine lv_aload_n hx hb dX12_spread_13 rfl (lv_at hl 0 rfl) ?_
    refine va_get (D := (dC, dI)) (ci := 12) (v := .ref (a 74)) (C := RX12) (T := TX12) (N := 163) (fs := fM (vS a vi vj)) hx hb hts iwsRX12_spread_in12 hown hK hP 0 rfl rfl 123 (by decide) (hts _ hm_r_X12_spread_0) (fun _ h9 => h9) rfl dX12_spread_14 ?_
    refine lv_iload_n hx hb dX12_spread_17 rfl (lv_at hl 2 rfl) ?_
    refine va_iald (cA := k 74) (n := 28) (f := (vF 74)) hx hb hK hP 75 74 (WR_get 74 (by decide)) (TR_get 74 (by decide)) (vp_in_nI (show iN < 28 by omega) (by omega)) dX12_spread_18 ?_
    refine lv_topi (fun y2 hy2 => ?_)
    obtain rfl : ((vF 74) iN) = y2 := (hy2.trans (by rw [nI_clamp (by omega)])).symm
    refine lv_topi (fun y3 hy3 => ?_)
    obtain rfl : (nI (ncS (ncw (vF 61) (vF 71) (vF 72) (vF 73)) iN)) = y3 := (hy3.trans (hcol)).symm
    have hFc := allFree hD hS hA
    refine va_calli (va_runV (As := [.int (nI rn), .int (nI (ncS (ncw (vF 61) (vF 71) (vF 72) (vF 73)) iN))]) (rest := [.ref h0]) ⟨hx, hb, hml, hown, hts⟩ (r_X12_at l dC dI a k h0 vi vj vF vG rn (ncS (ncw (vF 61) (vF 71) (vF 72) (vF 73)) iN) C (by first | with_reducible assumption | decide | omega | rfl | assumption) s.heap.size) (cwV 2 hts gwsRX12_spread_0 rfl rfl rfl hd_yX12_at_RX12 (by decide +kernel)) (fz_pre (va_recv hK hP (ci := 12) (q0 := 0) rfl rfl) hP hK hD) rfl rfl hl.1 rfl (lv_room (Nat.le_of_ble_eq_true rfl)) dX12_spread_19 (by decide +kernel)) hS (fun q _ h => hFc q h) hFc (fun r19 u t9_ H locs ht hvm hw9 hB9 hz1 hk1 hS => ?_)
    have hP : va_P (dC, dI) vwCl (WR a k h0 vi vj vF vG) H := fz_P ht hB9.1
    have hD := fz_sd hP (hB9.2.weaken (fun _ q _ h => hFc q.1 h)) rfl
    obtain rfl := hw9
    refine lv_iload_n hx hb dX12_spread_22 rfl (lv_at hl 3 rfl) ?_
    refine lv_i2l hx hb dX12_spread_23 rfl ?_
    refine lv_iload hx hb dX12_spread_24 (lv_at hl 4 rfl) ?_
    refine lv_i2l hx hb dX12_spread_26 rfl ?_
    refine lv_lmul hx hb dX12_spread_27 ?_
    have hFc := allFree hD hS hA
    refine va_callv (va_runV (As := [.int (nI (30 + rn * (C + 1) + (ncS (ncw (vF 61) (vF 71) (vF 72) (vF 73)) iN))), .long ((vI).toInt64 * (hw).toInt64)]) (rest := []) ⟨hx, hb, hml, hown, hts⟩ (b_X12_put l dC dI a k h0 vi vj vF vG (30 + rn * (C + 1) + (ncS (ncw (vF 61) (vF 71) (vF 72) (vF 73)) iN)) ((vI).toInt64 * (hw).toInt64) ((vI).toInt * hI) mg hBg (by first | with_reducible assumption | decide | omega | rfl | assumption) (by rw [ea, hhI]) (by omega) H.size) (cwV 2 hts gwsRX12_spread_1 rfl rfl rfl hd_yX12_put_RX12 (by decide +kernel)) (fz_pre (va_recv hK hP (ci := 12) (q0 := 0) rfl rfl) hP hK hD) rfl rfl hl.1 rfl (lv_room (Nat.le_of_ble_eq_true rfl)) dX12_spread_28 (by decide +kernel)) hS (fun q _ h => hFc q h) hFc (fun g28 t9_ H locs ht hvm hw9 hB9 hz1 hk1 hS => ?_)
    have hP : va_P (dC, dI) vwCl (WR a k h0 vi vj (fT vF 0 g28) vG) H := fz_P ht hB9.1
    have hD := fz_sd hP (hB9.2.weaken (fun _ q _ h => hFc q.1 h)) rfl
    have f28_0 := hw9
    try dsimp only at f28_0
    refine lv_aload_n hx hb dX12_spread_31 rfl (lv_at hl 0 rfl) ?_
    refine lv_iload_n hx hb dX12_spread_32 rfl (lv_at hl 2 rfl) ?_
    have hFc := allFree hD hS hA
    refine va_calli (va_runV (As := [.int (nI iN)]) (rest := []) ⟨hx, hb, hml, hown, hts⟩ (r_X12_isEqual l dC dI a k h0 vi vj (fT vF 0 g28) vG iN vn mr z nd (hN) (by first | with_reducible assumption | decide | omega | rfl | assumption) (by first | with_reducible assumption | decide | omega | rfl | assumption) (by first | with_reducible assumption | decide | omega | rfl | assumption) H.size) (cwV 1 hts gwsRX12_spread_2 rfl rfl rfl hd_yX12_isEqual_RX12 (by decide +kernel)) (fz_pre (va_recv hK hP (ci := 12) (q0 := 0) rfl rfl) hP hK hD) rfl rfl hl.1 rfl (lv_room (Nat.le_of_ble_eq_true rfl)) dX12_spread_33 (by decide +kernel)) hS (fun q _ h => hFc q h) hFc (fun r33 u t9_ H locs ht hvm hw9 hB9 hz1 hk1 hS => ?_)
    have hP : va_P (dC, dI) vwCl (WR a k h0 vi vj (fT vF 0 g28) vG) H := fz_P ht hB9.1
    have hD := fz_sd hP (hB9.2.weaken (fun _ q _ h => hFc q.1 h)) rfl
    rcases hw9 with ⟨rfl, f33_0⟩ | ⟨rfl, f33_0⟩
    · have f33_0 : EqP (vF 61) (vF 71) (vF 72) iN := f33_0
      refine lv_if_eq (tgt := 63) hx hb dX12_spread_36 (by decide) (fun c9 => absurd c9 (by decide)) (fun _ => ?_)
      have hw2 : (ncw (vF 61) (vF 71) (vF 72) (vF 73)) iN = 2 := by unfold ncw; rw [if_neg c_6, if_pos f33_0]
      have hng := neg32 (b := 99999) hvb (by decide)
      have eb := mulI (x := -vI) (y := hw)
      have by9 : (-(vI).toInt * hI).natAbs ≤ (vI).toInt.natAbs := by rcases hI1 with h | h <;> rw [h] <;> omega
      refine lv_aload_n hx hb dX12_spread_39 rfl (lv_at hl 0 rfl) ?_
      refine lv_aload_n hx hb dX12_spread_40 rfl (lv_at hl 0 rfl) ?_
      refine lv_iload_n hx hb dX12_spread_41 rfl (lv_at hl 1 rfl) ?_
      refine lv_aload_n hx hb dX12_spread_42 rfl (lv_at hl 0 rfl) ?_
      refine va_get (D := (dC, dI)) (ci := 12) (v := .ref (a 74)) (C := RX12) (T := TX12) (N := 163) (fs := fM (vS a vi vj)) hx hb hts iwsRX12_spread_in12 hown hK hP 0 rfl rfl 123 (by decide) (hts _ hm_r_X12_spread_0) (fun _ h9 => h9) rfl dX12_spread_43 ?_
      refine lv_iload_n hx hb dX12_spread_46 rfl (lv_at hl 2 rfl) ?_
      refine va_iald (cA := k 74) (n := 28) (f := (vF 74)) hx hb hK hP 75 74 (WR_get 74 (by decide)) (TR_get 74 (by decide)) (vp_in_nI (show iN < 28 by omega) (by omega)) dX12_spread_47 ?_
      refine lv_topi (fun y4 hy4 => ?_)
      obtain rfl : ((vF 74) iN) = y4 := (hy4.trans (by rw [nI_clamp (by omega)])).symm
      refine lv_topi (fun y5 hy5 => ?_)
      obtain rfl : (nI (ncS (ncw (vF 61) (vF 71) (vF 72) (vF 73)) iN)) = y5 := (hy5.trans (hcol)).symm
      refine lv_iconst (v := 1) hx hb dX12_spread_48 (by decide) ?_
      refine lv_iadd hx hb dX12_spread_49 ?_
      refine lv_topi (fun y6 hy6 => ?_)
      obtain rfl : (nI ((ncS (ncw (vF 61) (vF 71) (vF 72) (vF 73)) iN) + 1)) = y6 := (hy6.trans (nI_add (ncS (ncw (vF 61) (vF 71) (vF 72) (vF 73)) iN) 1)).symm
      have hFc := allFree hD hS hA
      refine va_calli (va_runV (As := [.int (nI rn), .int (nI ((ncS (ncw (vF 61) (vF 71) (vF 72) (vF 73)) iN) + 1))]) (rest := [.ref h0]) ⟨hx, hb, hml, hown, hts⟩ (r_X12_at l dC dI a k h0 vi vj (fT vF 0 g28) vG rn ((ncS (ncw (vF 61) (vF 71) (vF 72) (vF 73)) iN) + 1) C (by first | with_reducible assumption | decide | omega | rfl | assumption) H.size) (cwV 2 hts gwsRX12_spread_0 rfl rfl rfl hd_yX12_at_RX12 (by decide +kernel)) (fz_pre (va_recv hK hP (ci := 12) (q0 := 0) rfl rfl) hP hK hD) rfl rfl hl.1 rfl (lv_room (Nat.le_of_ble_eq_true rfl)) dX12_spread_50 (by decide +kernel)) hS (fun q _ h => hFc q h) hFc (fun r50 u t9_ H locs ht hvm hw9 hB9 hz1 hk1 hS => ?_)
      have hP : va_P (dC, dI) vwCl (WR a k h0 vi vj (fT vF 0 g28) vG) H := fz_P ht hB9.1
      have hD := fz_sd hP (hB9.2.weaken (fun _ q _ h => hFc q.1 h)) rfl
      obtain rfl := hw9
      refine lv_iload_n hx hb dX12_spread_53 rfl (lv_at hl 3 rfl) ?_
      refine lv_ineg hx hb dX12_spread_54 ?_
      refine lv_i2l hx hb dX12_spread_55 rfl ?_
      refine lv_iload hx hb dX12_spread_56 (lv_at hl 4 rfl) ?_
      refine lv_i2l hx hb dX12_spread_58 rfl ?_
      refine lv_lmul hx hb dX12_spread_59 ?_
      have hFc := allFree hD hS hA
      refine va_callv (va_runV (As := [.int (nI (30 + rn * (C + 1) + ((ncS (ncw (vF 61) (vF 71) (vF 72) (vF 73)) iN) + 1))), .long (((-vI)).toInt64 * (hw).toInt64)]) (rest := []) ⟨hx, hb, hml, hown, hts⟩ (b_X12_put l dC dI a k h0 vi vj (fT vF 0 g28) vG (30 + rn * (C + 1) + ((ncS (ncw (vF 61) (vF 71) (vF 72) (vF 73)) iN) + 1)) (((-vI)).toInt64 * (hw).toInt64) (-(vI).toInt * hI) (fT mg (30 + rn * (C + 1) + (ncS (ncw (vF 61) (vF 71) (vF 72) (vF 73)) iN)) ((vI).toInt * hI)) f28_0 (by first | with_reducible assumption | decide | omega | rfl | assumption) (by rw [eb, hhI, hng.2]) (by omega) H.size) (cwV 2 hts gwsRX12_spread_1 rfl rfl rfl hd_yX12_put_RX12 (by decide +kernel)) (fz_pre (va_recv hK hP (ci := 12) (q0 := 0) rfl rfl) hP hK hD) rfl rfl hl.1 rfl (lv_room (Nat.le_of_ble_eq_true rfl)) dX12_spread_60 (by decide +kernel)) hS (fun q _ h => hFc q h) hFc (fun g60 t9_ H locs ht hvm hw9 hB9 hz1 hk1 hS => ?_)
      have e9F : fT vF 0 g60 = fT (fT vF 0 g28) 0 g60 := (fT_sm _ _ _ _).symm
      have hP := wr_PF e9F (fz_P ht hB9.1)
      have hD := wr_DF e9F (hB9.2.weaken (fun _ q _ h => hFc q.1 h))
      clear e9F
      have f60_0 := hw9
      try dsimp only at f60_0
      refine W.widen (k := 0) (n := 0) (by decide +kernel) (by decide +kernel) ?_
      exact W.vret hx hb hr (fun t9_ ht hW => ⟨⟨(g60, (fT (fT mg (30 + rn * (C + 1) + (ncS (ncw (vF 61) (vF 71) (vF 72) (vF 73)) iN)) ((vI).toInt * hI)) (30 + rn * (C + 1) + ((ncS (ncw (vF 61) (vF 71) (vF 72) (vF 73)) iN) + 1)) (-(vI).toInt * hI))), rfl, by (try dsimp only); exact ⟨f60_0, fun j hj => by by_cases e8 : j = ncS (ncw (vF 61) (vF 71) (vF 72) (vF 73)) iN + 1; (rw [e8, fT_eq]; exact Nat.le_trans by9 (hbb _ (by omega) (by omega))); rw [fT_ne _ _ (by omega)]; by_cases e9 : j = ncS (ncw (vF 61) (vF 71) (vF 72) (vF 73)) iN; (rw [e9, fT_eq]; exact Nat.le_trans bx (hbb _ (by omega) (by omega))); (rw [fT_ne _ _ (by omega)]; exact hrow j hj), fun q hq => by (rw [fT_ne _ _ (by omega), fT_ne _ _ (by omega)])⟩, by rw [ht]; exact hP, hD⟩, hS.F ht⟩) hS.2.2 dX12_spread_63
    · have f33_0 : ¬ EqP (vF 61) (vF 71) (vF 72) iN := f33_0
      refine lv_if_eq (tgt := 63) hx hb dX12_spread_36 (by decide) (fun _ => ?_) (fun c9 => absurd (by decide) c9)
      refine W.widen (k := 0) (n := 0) (by decide +kernel) (by decide +kernel) ?_
      exact W.vret hx hb hr (fun t9_ ht hW => ⟨⟨(g28, (fT mg (30 + rn * (C + 1) + (ncS (ncw (vF 61) (vF 71) (vF 72) (vF 73)) iN)) ((vI).toInt * hI))), rfl, by (try dsimp only); exact ⟨f28_0, fun j hj => by by_cases e9 : j = ncS (ncw (vF 61) (vF 71) (vF 72) (vF 73)) iN; (rw [e9, fT_eq]; exact Nat.le_trans bx (hbb _ (by omega) (by omega))); (rw [fT_ne _ _ (by omega)]; exact hrow j hj), fun q hq => by (rw [fT_ne _ _ (by omega)])⟩, by rw [ht]; exact hP, hD⟩, hS.F ht⟩) hS.2.2 dX12_spread_63
  · have t_6 : (((vF 73) iN)).toInt = 0 := toI_nne c_6 rfl (by decide)
    refine W.widen (k := 0) (n := 0) (by decide +kernel) (by decide +kernel) ?_
    have e9 : fT vF 0 (vF 0) = vF := fT_id _ _ (rfl)
    have hP := wr_PF e9 hP
    have hD := wr_DF e9 hD
    clear e9
    exact W.vret hx hb hr (fun t9_ ht hW => ⟨⟨((vF 0), mg), rfl, by (try dsimp only); exact ⟨hBg, hrow, fun q _ => rfl⟩, by rw [ht]; exact hP, hD⟩, hS.F ht⟩) hS.2.2 dX12_spread_9
end
section
theorem hd_yX12_needNumber_RX12 : yX12_needNumber.cls = RX12 ∧ yX12_needNumber.cls ≠ "java/lang/invoke/MethodHandle" ∧ yX12_needNumber.cls ≠ "java/lang/invoke/VarHandle" ∧ (parseMethodDescriptor yX12_needNumber.desc).map (fun d => d.parameters.length) = some 2 := by decide +kernel
theorem hd_yX12_spread_RX12 : yX12_spread.cls = RX12 ∧ yX12_spread.cls ≠ "java/lang/invoke/MethodHandle" ∧ yX12_spread.cls ≠ "java/lang/invoke/VarHandle" ∧ (parseMethodDescriptor yX12_spread.desc).map (fun d => d.parameters.length) = some 4 := by decide +kernel
theorem dX12_addsUp_0 : decode cX12_addsUp 0 = .ok (.iconst 0, 1) := dk_3 (by decide +kernel)
theorem dX12_addsUp_1 : decode cX12_addsUp 1 = .ok (.istore_n 1, 1) := dk_60 (by decide +kernel)
theorem dX12_addsUp_2 : decode cX12_addsUp 2 = .ok (.iconst 0, 1) := dk_3 (by decide +kernel)
theorem dX12_addsUp_3 : decode cX12_addsUp 3 = .ok (.istore_n 2, 1) := dk_61 (by decide +kernel)
theorem dX12_addsUp_4 : decode cX12_addsUp 4 = .ok (.iload_n 2, 1) := dk_28 (by decide +kernel)
theorem dX12_addsUp_5 : decode cX12_addsUp 5 = .ok (.aload_n 0, 1) := dk_42 (by decide +kernel)
theorem dX12_addsUp_6 : decode cX12_addsUp 6 = .ok (.getfield 894, 3) := dk_180 (by decide +kernel)
theorem dX12_addsUp_9 : decode cX12_addsUp 9 = .ok (.if_icmp .ge 45, 3) := dk_162 (by decide +kernel)
theorem dX12_addsUp_12 : decode cX12_addsUp 12 = .ok (.aload_n 0, 1) := dk_42 (by decide +kernel)
theorem dX12_addsUp_13 : decode cX12_addsUp 13 = .ok (.getfield 245, 3) := dk_180 (by decide +kernel)
theorem dX12_addsUp_16 : decode cX12_addsUp 16 = .ok (.iload_n 2, 1) := dk_28 (by decide +kernel)
theorem dX12_addsUp_17 : decode cX12_addsUp 17 = .ok (.iload_n 1, 1) := dk_27 (by decide +kernel)
theorem dX12_addsUp_18 : decode cX12_addsUp 18 = .ok (.iastore, 1) := dk_79 (by decide +kernel)
theorem dX12_addsUp_19 : decode cX12_addsUp 19 = .ok (.iload_n 1, 1) := dk_27 (by decide +kernel)
theorem dX12_addsUp_20 : decode cX12_addsUp 20 = .ok (.aload_n 0, 1) := dk_42 (by decide +kernel)
theorem dX12_addsUp_21 : decode cX12_addsUp 21 = .ok (.getfield 242, 3) := dk_180 (by decide +kernel)
theorem dX12_addsUp_24 : decode cX12_addsUp 24 = .ok (.iload_n 2, 1) := dk_28 (by decide +kernel)
theorem dX12_addsUp_25 : decode cX12_addsUp 25 = .ok (.iaload, 1) := dk_46 (by decide +kernel)
theorem dX12_addsUp_26 : decode cX12_addsUp 26 = .ok (.ifCond .ne 7, 3) := dk_154 (by decide +kernel)
theorem dX12_addsUp_29 : decode cX12_addsUp 29 = .ok (.iconst 0, 1) := dk_3 (by decide +kernel)
theorem dX12_addsUp_30 : decode cX12_addsUp 30 = .ok (.goto 16, 3) := dk_167 (by decide +kernel)
theorem dX12_addsUp_33 : decode cX12_addsUp 33 = .ok (.aload_n 0, 1) := dk_42 (by decide +kernel)
theorem dX12_addsUp_34 : decode cX12_addsUp 34 = .ok (.iload_n 2, 1) := dk_28 (by decide +kernel)
theorem dX12_addsUp_35 : decode cX12_addsUp 35 = .ok (.invokevirtual 900, 3) := dk_182 (by decide +kernel)
theorem dX12_addsUp_38 : decode cX12_addsUp 38 = .ok (.ifCond .eq 7, 3) := dk_153 (by decide +kernel)
theorem dX12_addsUp_41 : decode cX12_addsUp 41 = .ok (.iconst 2, 1) := dk_5 (by decide +kernel)
theorem dX12_addsUp_42 : decode cX12_addsUp 42 = .ok (.goto 4, 3) := dk_167 (by decide +kernel)
theorem dX12_addsUp_45 : decode cX12_addsUp 45 = .ok (.iconst 1, 1) := dk_4 (by decide +kernel)
theorem dX12_addsUp_46 : decode cX12_addsUp 46 = .ok (.iadd, 1) := dk_96 (by decide +kernel)
theorem dX12_addsUp_47 : decode cX12_addsUp 47 = .ok (.istore_n 1, 1) := dk_60 (by decide +kernel)
theorem dX12_addsUp_48 : decode cX12_addsUp 48 = .ok (.iinc 2 1, 3) := dk_132 (by decide +kernel)
theorem dX12_addsUp_51 : decode cX12_addsUp 51 = .ok (.goto (-47), 3) := dk_167 (by decide +kernel)
theorem dX12_addsUp_54 : decode cX12_addsUp 54 = .ok (.aload_n 0, 1) := dk_42 (by decide +kernel)
theorem dX12_addsUp_55 : decode cX12_addsUp 55 = .ok (.iload_n 1, 1) := dk_27 (by decide +kernel)
theorem dX12_addsUp_56 : decode cX12_addsUp 56 = .ok (.invokevirtual 835, 3) := dk_182 (by decide +kernel)
theorem dX12_addsUp_59 : decode cX12_addsUp 59 = .ok (.aload_n 0, 1) := dk_42 (by decide +kernel)
theorem dX12_addsUp_60 : decode cX12_addsUp 60 = .ok (.getfield 903, 3) := dk_180 (by decide +kernel)
theorem dX12_addsUp_63 : decode cX12_addsUp 63 = .ok (.ifCond .ne 18, 3) := dk_154 (by decide +kernel)
theorem dX12_addsUp_66 : decode cX12_addsUp 66 = .ok (.aload_n 0, 1) := dk_42 (by decide +kernel)
theorem dX12_addsUp_67 : decode cX12_addsUp 67 = .ok (.getfield 805, 3) := dk_180 (by decide +kernel)
theorem dX12_addsUp_70 : decode cX12_addsUp 70 = .ok (.ifCond .le 11, 3) := dk_158 (by decide +kernel)
theorem dX12_addsUp_73 : decode cX12_addsUp 73 = .ok (.aload_n 0, 1) := dk_42 (by decide +kernel)
theorem dX12_addsUp_74 : decode cX12_addsUp 74 = .ok (.iconst 0, 1) := dk_3 (by decide +kernel)
theorem dX12_addsUp_75 : decode cX12_addsUp 75 = .ok (.invokevirtual 844, 3) := dk_182 (by decide +kernel)
theorem dX12_addsUp_78 : decode cX12_addsUp 78 = .ok (.goto 10, 3) := dk_167 (by decide +kernel)
theorem dX12_addsUp_81 : decode cX12_addsUp 81 = .ok (.aload_n 0, 1) := dk_42 (by decide +kernel)
theorem dX12_addsUp_82 : decode cX12_addsUp 82 = .ok (.bipush 19, 2) := dk_16 (by decide +kernel)
theorem dX12_addsUp_84 : decode cX12_addsUp 84 = .ok (.lconst 1, 1) := dk_10 (by decide +kernel)
theorem dX12_addsUp_85 : decode cX12_addsUp 85 = .ok (.invokevirtual 369, 3) := dk_182 (by decide +kernel)
theorem dX12_addsUp_88 : decode cX12_addsUp 88 = .ok (.aload_n 0, 1) := dk_42 (by decide +kernel)
theorem dX12_addsUp_89 : decode cX12_addsUp 89 = .ok (.sipush 1045, 3) := dk_17 (by decide +kernel)
theorem dX12_addsUp_92 : decode cX12_addsUp 92 = .ok (.bipush 19, 2) := dk_16 (by decide +kernel)
theorem dX12_addsUp_94 : decode cX12_addsUp 94 = .ok (.invokevirtual 365, 3) := dk_182 (by decide +kernel)
theorem dX12_addsUp_97 : decode cX12_addsUp 97 = .ok (.iconst 0, 1) := dk_3 (by decide +kernel)
theorem dX12_addsUp_98 : decode cX12_addsUp 98 = .ok (.istore_n 2, 1) := dk_61 (by decide +kernel)
theorem dX12_addsUp_99 : decode cX12_addsUp 99 = .ok (.iload_n 2, 1) := dk_28 (by decide +kernel)
theorem dX12_addsUp_100 : decode cX12_addsUp 100 = .ok (.aload_n 0, 1) := dk_42 (by decide +kernel)
theorem dX12_addsUp_101 : decode cX12_addsUp 101 = .ok (.getfield 774, 3) := dk_180 (by decide +kernel)
theorem dX12_addsUp_104 : decode cX12_addsUp 104 = .ok (.if_icmp .ge 163, 3) := dk_162 (by decide +kernel)
theorem dX12_addsUp_107 : decode cX12_addsUp 107 = .ok (.iconst 1, 1) := dk_4 (by decide +kernel)
theorem dX12_addsUp_108 : decode cX12_addsUp 108 = .ok (.istore_n 3, 1) := dk_62 (by decide +kernel)
theorem dX12_addsUp_109 : decode cX12_addsUp 109 = .ok (.iload_n 3, 1) := dk_29 (by decide +kernel)
theorem dX12_addsUp_110 : decode cX12_addsUp 110 = .ok (.iconst (-1), 1) := dk_2 (by decide +kernel)
theorem dX12_addsUp_111 : decode cX12_addsUp 111 = .ok (.if_icmp .lt 150, 3) := dk_161 (by decide +kernel)
theorem dX12_addsUp_114 : decode cX12_addsUp 114 = .ok (.aload_n 0, 1) := dk_42 (by decide +kernel)
theorem dX12_addsUp_115 : decode cX12_addsUp 115 = .ok (.invokevirtual 823, 3) := dk_182 (by decide +kernel)
theorem dX12_addsUp_118 : decode cX12_addsUp 118 = .ok (.istore 4, 2) := dk_54 (by decide +kernel)
theorem dX12_addsUp_120 : decode cX12_addsUp 120 = .ok (.iconst 0, 1) := dk_3 (by decide +kernel)
theorem dX12_addsUp_121 : decode cX12_addsUp 121 = .ok (.istore 5, 2) := dk_54 (by decide +kernel)
theorem dX12_addsUp_123 : decode cX12_addsUp 123 = .ok (.iload 5, 2) := dk_21 (by decide +kernel)
theorem dX12_addsUp_125 : decode cX12_addsUp 125 = .ok (.aload_n 0, 1) := dk_42 (by decide +kernel)
theorem dX12_addsUp_126 : decode cX12_addsUp 126 = .ok (.getfield 894, 3) := dk_180 (by decide +kernel)
theorem dX12_addsUp_129 : decode cX12_addsUp 129 = .ok (.if_icmp .ge 25, 3) := dk_162 (by decide +kernel)
theorem dX12_addsUp_132 : decode cX12_addsUp 132 = .ok (.aload_n 0, 1) := dk_42 (by decide +kernel)
theorem dX12_addsUp_133 : decode cX12_addsUp 133 = .ok (.iload 4, 2) := dk_21 (by decide +kernel)
theorem dX12_addsUp_135 : decode cX12_addsUp 135 = .ok (.iload 5, 2) := dk_21 (by decide +kernel)
theorem dX12_addsUp_137 : decode cX12_addsUp 137 = .ok (.aload_n 0, 1) := dk_42 (by decide +kernel)
theorem dX12_addsUp_138 : decode cX12_addsUp 138 = .ok (.iload 5, 2) := dk_21 (by decide +kernel)
theorem dX12_addsUp_140 : decode cX12_addsUp 140 = .ok (.iload_n 2, 1) := dk_28 (by decide +kernel)
theorem dX12_addsUp_141 : decode cX12_addsUp 141 = .ok (.invokevirtual 906, 3) := dk_182 (by decide +kernel)
theorem dX12_addsUp_144 : decode cX12_addsUp 144 = .ok (.iload_n 3, 1) := dk_29 (by decide +kernel)
theorem dX12_addsUp_145 : decode cX12_addsUp 145 = .ok (.invokevirtual 909, 3) := dk_182 (by decide +kernel)
theorem dX12_addsUp_148 : decode cX12_addsUp 148 = .ok (.iinc 5 1, 3) := dk_132 (by decide +kernel)
theorem dX12_addsUp_151 : decode cX12_addsUp 151 = .ok (.goto (-28), 3) := dk_167 (by decide +kernel)
theorem dX12_addsUp_154 : decode cX12_addsUp 154 = .ok (.aload_n 0, 1) := dk_42 (by decide +kernel)
theorem dX12_addsUp_155 : decode cX12_addsUp 155 = .ok (.bipush 17, 2) := dk_16 (by decide +kernel)
theorem dX12_addsUp_157 : decode cX12_addsUp 157 = .ok (.lconst 0, 1) := dk_9 (by decide +kernel)
theorem dX12_addsUp_158 : decode cX12_addsUp 158 = .ok (.invokevirtual 369, 3) := dk_182 (by decide +kernel)
theorem dX12_addsUp_161 : decode cX12_addsUp 161 = .ok (.aload_n 0, 1) := dk_42 (by decide +kernel)
theorem dX12_addsUp_162 : decode cX12_addsUp 162 = .ok (.bipush 19, 2) := dk_16 (by decide +kernel)
theorem dX12_addsUp_164 : decode cX12_addsUp 164 = .ok (.sipush 1045, 3) := dk_17 (by decide +kernel)
theorem dX12_addsUp_167 : decode cX12_addsUp 167 = .ok (.invokevirtual 365, 3) := dk_182 (by decide +kernel)
theorem dX12_addsUp_170 : decode cX12_addsUp 170 = .ok (.aload_n 0, 1) := dk_42 (by decide +kernel)
theorem dX12_addsUp_171 : decode cX12_addsUp 171 = .ok (.getfield 903, 3) := dk_180 (by decide +kernel)
theorem dX12_addsUp_174 : decode cX12_addsUp 174 = .ok (.ifCond .ne 18, 3) := dk_154 (by decide +kernel)
theorem dX12_addsUp_177 : decode cX12_addsUp 177 = .ok (.aload_n 0, 1) := dk_42 (by decide +kernel)
theorem dX12_addsUp_178 : decode cX12_addsUp 178 = .ok (.getfield 805, 3) := dk_180 (by decide +kernel)
theorem dX12_addsUp_181 : decode cX12_addsUp 181 = .ok (.ifCond .le 11, 3) := dk_158 (by decide +kernel)
theorem dX12_addsUp_184 : decode cX12_addsUp 184 = .ok (.aload_n 0, 1) := dk_42 (by decide +kernel)
theorem dX12_addsUp_185 : decode cX12_addsUp 185 = .ok (.iconst 0, 1) := dk_3 (by decide +kernel)
theorem dX12_addsUp_186 : decode cX12_addsUp 186 = .ok (.iload_n 2, 1) := dk_28 (by decide +kernel)
theorem dX12_addsUp_187 : decode cX12_addsUp 187 = .ok (.iconst 1, 1) := dk_4 (by decide +kernel)
theorem dX12_addsUp_188 : decode cX12_addsUp 188 = .ok (.iadd, 1) := dk_96 (by decide +kernel)
theorem dX12_addsUp_189 : decode cX12_addsUp 189 = .ok (.invokevirtual 847, 3) := dk_182 (by decide +kernel)
theorem dX12_addsUp_192 : decode cX12_addsUp 192 = .ok (.aload_n 0, 1) := dk_42 (by decide +kernel)
theorem dX12_addsUp_193 : decode cX12_addsUp 193 = .ok (.aload_n 0, 1) := dk_42 (by decide +kernel)
theorem dX12_addsUp_194 : decode cX12_addsUp 194 = .ok (.iload 4, 2) := dk_21 (by decide +kernel)
theorem dX12_addsUp_196 : decode cX12_addsUp 196 = .ok (.aload_n 0, 1) := dk_42 (by decide +kernel)
theorem dX12_addsUp_197 : decode cX12_addsUp 197 = .ok (.getfield 396, 3) := dk_180 (by decide +kernel)
theorem dX12_addsUp_200 : decode cX12_addsUp 200 = .ok (.invokevirtual 405, 3) := dk_182 (by decide +kernel)
theorem dX12_addsUp_203 : decode cX12_addsUp 203 = .ok (.bipush 17, 2) := dk_16 (by decide +kernel)
theorem dX12_addsUp_205 : decode cX12_addsUp 205 = .ok (.invokevirtual 365, 3) := dk_182 (by decide +kernel)
theorem dX12_addsUp_208 : decode cX12_addsUp 208 = .ok (.iload_n 3, 1) := dk_29 (by decide +kernel)
theorem dX12_addsUp_209 : decode cX12_addsUp 209 = .ok (.aload_n 0, 1) := dk_42 (by decide +kernel)
theorem dX12_addsUp_210 : decode cX12_addsUp 210 = .ok (.getfield 903, 3) := dk_180 (by decide +kernel)
theorem dX12_addsUp_213 : decode cX12_addsUp 213 = .ok (.ifCond .ne 19, 3) := dk_154 (by decide +kernel)
theorem dX12_addsUp_216 : decode cX12_addsUp 216 = .ok (.aload_n 0, 1) := dk_42 (by decide +kernel)
theorem dX12_addsUp_217 : decode cX12_addsUp 217 = .ok (.getfield 805, 3) := dk_180 (by decide +kernel)
theorem dX12_addsUp_220 : decode cX12_addsUp 220 = .ok (.ifCond .eq 12, 3) := dk_153 (by decide +kernel)
theorem dX12_addsUp_223 : decode cX12_addsUp 223 = .ok (.aload_n 0, 1) := dk_42 (by decide +kernel)
theorem dX12_addsUp_224 : decode cX12_addsUp 224 = .ok (.getfield 218, 3) := dk_180 (by decide +kernel)
theorem dX12_addsUp_227 : decode cX12_addsUp 227 = .ok (.iconst 0, 1) := dk_3 (by decide +kernel)
theorem dX12_addsUp_228 : decode cX12_addsUp 228 = .ok (.iaload, 1) := dk_46 (by decide +kernel)
theorem dX12_addsUp_229 : decode cX12_addsUp 229 = .ok (.ifCond .ne 7, 3) := dk_154 (by decide +kernel)
theorem dX12_addsUp_232 : decode cX12_addsUp 232 = .ok (.iconst 1, 1) := dk_4 (by decide +kernel)
theorem dX12_addsUp_233 : decode cX12_addsUp 233 = .ok (.goto 4, 3) := dk_167 (by decide +kernel)
theorem dX12_addsUp_236 : decode cX12_addsUp 236 = .ok (.iconst (-1), 1) := dk_2 (by decide +kernel)
theorem dX12_addsUp_237 : decode cX12_addsUp 237 = .ok (.imul, 1) := dk_104 (by decide +kernel)
theorem dX12_addsUp_238 : decode cX12_addsUp 238 = .ok (.ifCond .ge 17, 3) := dk_156 (by decide +kernel)
theorem dX12_addsUp_241 : decode cX12_addsUp 241 = .ok (.aload_n 0, 1) := dk_42 (by decide +kernel)
theorem dX12_addsUp_242 : decode cX12_addsUp 242 = .ok (.aload_n 0, 1) := dk_42 (by decide +kernel)
theorem dX12_addsUp_243 : decode cX12_addsUp 243 = .ok (.iload 4, 2) := dk_21 (by decide +kernel)
theorem dX12_addsUp_245 : decode cX12_addsUp 245 = .ok (.aload_n 0, 1) := dk_42 (by decide +kernel)
theorem dX12_addsUp_246 : decode cX12_addsUp 246 = .ok (.getfield 396, 3) := dk_180 (by decide +kernel)
theorem dX12_addsUp_249 : decode cX12_addsUp 249 = .ok (.invokevirtual 405, 3) := dk_182 (by decide +kernel)
theorem dX12_addsUp_252 : decode cX12_addsUp 252 = .ok (.invokevirtual 379, 3) := dk_182 (by decide +kernel)
theorem dX12_addsUp_255 : decode cX12_addsUp 255 = .ok (.iinc 3 (-2), 3) := dk_132 (by decide +kernel)
theorem dX12_addsUp_258 : decode cX12_addsUp 258 = .ok (.goto (-149), 3) := dk_167 (by decide +kernel)
theorem dX12_addsUp_261 : decode cX12_addsUp 261 = .ok (.iinc 2 1, 3) := dk_132 (by decide +kernel)
theorem dX12_addsUp_264 : decode cX12_addsUp 264 = .ok (.goto (-165), 3) := dk_167 (by decide +kernel)
theorem dX12_addsUp_267 : decode cX12_addsUp 267 = .ok (.iconst 1, 1) := dk_4 (by decide +kernel)
theorem dX12_addsUp_268 : decode cX12_addsUp 268 = .ok (.istore_n 2, 1) := dk_61 (by decide +kernel)
theorem dX12_addsUp_269 : decode cX12_addsUp 269 = .ok (.iload_n 2, 1) := dk_28 (by decide +kernel)
theorem dX12_addsUp_270 : decode cX12_addsUp 270 = .ok (.iconst (-1), 1) := dk_2 (by decide +kernel)
theorem dX12_addsUp_271 : decode cX12_addsUp 271 = .ok (.if_icmp .lt 114, 3) := dk_161 (by decide +kernel)
theorem dX12_addsUp_274 : decode cX12_addsUp 274 = .ok (.aload_n 0, 1) := dk_42 (by decide +kernel)
theorem dX12_addsUp_275 : decode cX12_addsUp 275 = .ok (.getfield 903, 3) := dk_180 (by decide +kernel)
theorem dX12_addsUp_278 : decode cX12_addsUp 278 = .ok (.ifCond .eq 107, 3) := dk_153 (by decide +kernel)
theorem dX12_addsUp_281 : decode cX12_addsUp 281 = .ok (.aload_n 0, 1) := dk_42 (by decide +kernel)
theorem dX12_addsUp_282 : decode cX12_addsUp 282 = .ok (.invokevirtual 823, 3) := dk_182 (by decide +kernel)
theorem dX12_addsUp_285 : decode cX12_addsUp 285 = .ok (.istore_n 3, 1) := dk_62 (by decide +kernel)
theorem dX12_addsUp_286 : decode cX12_addsUp 286 = .ok (.iconst 0, 1) := dk_3 (by decide +kernel)
theorem dX12_addsUp_287 : decode cX12_addsUp 287 = .ok (.istore 4, 2) := dk_54 (by decide +kernel)
theorem dX12_addsUp_289 : decode cX12_addsUp 289 = .ok (.iload 4, 2) := dk_21 (by decide +kernel)
theorem dX12_addsUp_291 : decode cX12_addsUp 291 = .ok (.aload_n 0, 1) := dk_42 (by decide +kernel)
theorem dX12_addsUp_292 : decode cX12_addsUp 292 = .ok (.getfield 894, 3) := dk_180 (by decide +kernel)
theorem dX12_addsUp_295 : decode cX12_addsUp 295 = .ok (.if_icmp .ge 69, 3) := dk_162 (by decide +kernel)
theorem dX12_addsUp_298 : decode cX12_addsUp 298 = .ok (.aload_n 0, 1) := dk_42 (by decide +kernel)
theorem dX12_addsUp_299 : decode cX12_addsUp 299 = .ok (.getfield 242, 3) := dk_180 (by decide +kernel)
theorem dX12_addsUp_302 : decode cX12_addsUp 302 = .ok (.iload 4, 2) := dk_21 (by decide +kernel)
theorem dX12_addsUp_304 : decode cX12_addsUp 304 = .ok (.iaload, 1) := dk_46 (by decide +kernel)
theorem dX12_addsUp_305 : decode cX12_addsUp 305 = .ok (.ifCond .ne 6, 3) := dk_154 (by decide +kernel)
theorem dX12_addsUp_308 : decode cX12_addsUp 308 = .ok (.goto 50, 3) := dk_167 (by decide +kernel)
theorem dX12_addsUp_311 : decode cX12_addsUp 311 = .ok (.aload_n 0, 1) := dk_42 (by decide +kernel)
theorem dX12_addsUp_312 : decode cX12_addsUp 312 = .ok (.aload_n 0, 1) := dk_42 (by decide +kernel)
theorem dX12_addsUp_313 : decode cX12_addsUp 313 = .ok (.iload_n 3, 1) := dk_29 (by decide +kernel)
theorem dX12_addsUp_314 : decode cX12_addsUp 314 = .ok (.aload_n 0, 1) := dk_42 (by decide +kernel)
theorem dX12_addsUp_315 : decode cX12_addsUp 315 = .ok (.getfield 245, 3) := dk_180 (by decide +kernel)
theorem dX12_addsUp_318 : decode cX12_addsUp 318 = .ok (.iload 4, 2) := dk_21 (by decide +kernel)
theorem dX12_addsUp_320 : decode cX12_addsUp 320 = .ok (.iaload, 1) := dk_46 (by decide +kernel)
theorem dX12_addsUp_321 : decode cX12_addsUp 321 = .ok (.invokevirtual 405, 3) := dk_182 (by decide +kernel)
theorem dX12_addsUp_324 : decode cX12_addsUp 324 = .ok (.iload_n 2, 1) := dk_28 (by decide +kernel)
theorem dX12_addsUp_325 : decode cX12_addsUp 325 = .ok (.i2l, 1) := dk_133 (by decide +kernel)
theorem dX12_addsUp_326 : decode cX12_addsUp 326 = .ok (.invokevirtual 369, 3) := dk_182 (by decide +kernel)
theorem dX12_addsUp_329 : decode cX12_addsUp 329 = .ok (.aload_n 0, 1) := dk_42 (by decide +kernel)
theorem dX12_addsUp_330 : decode cX12_addsUp 330 = .ok (.iload 4, 2) := dk_21 (by decide +kernel)
theorem dX12_addsUp_332 : decode cX12_addsUp 332 = .ok (.invokevirtual 900, 3) := dk_182 (by decide +kernel)
theorem dX12_addsUp_335 : decode cX12_addsUp 335 = .ok (.ifCond .eq 23, 3) := dk_153 (by decide +kernel)
theorem dX12_addsUp_338 : decode cX12_addsUp 338 = .ok (.aload_n 0, 1) := dk_42 (by decide +kernel)
theorem dX12_addsUp_339 : decode cX12_addsUp 339 = .ok (.aload_n 0, 1) := dk_42 (by decide +kernel)
theorem dX12_addsUp_340 : decode cX12_addsUp 340 = .ok (.iload_n 3, 1) := dk_29 (by decide +kernel)
theorem dX12_addsUp_341 : decode cX12_addsUp 341 = .ok (.aload_n 0, 1) := dk_42 (by decide +kernel)
theorem dX12_addsUp_342 : decode cX12_addsUp 342 = .ok (.getfield 245, 3) := dk_180 (by decide +kernel)
theorem dX12_addsUp_345 : decode cX12_addsUp 345 = .ok (.iload 4, 2) := dk_21 (by decide +kernel)
theorem dX12_addsUp_347 : decode cX12_addsUp 347 = .ok (.iaload, 1) := dk_46 (by decide +kernel)
theorem dX12_addsUp_348 : decode cX12_addsUp 348 = .ok (.iconst 1, 1) := dk_4 (by decide +kernel)
theorem dX12_addsUp_349 : decode cX12_addsUp 349 = .ok (.iadd, 1) := dk_96 (by decide +kernel)
theorem dX12_addsUp_350 : decode cX12_addsUp 350 = .ok (.invokevirtual 405, 3) := dk_182 (by decide +kernel)
theorem dX12_addsUp_353 : decode cX12_addsUp 353 = .ok (.iload_n 2, 1) := dk_28 (by decide +kernel)
theorem dX12_addsUp_354 : decode cX12_addsUp 354 = .ok (.i2l, 1) := dk_133 (by decide +kernel)
theorem dX12_addsUp_355 : decode cX12_addsUp 355 = .ok (.invokevirtual 369, 3) := dk_182 (by decide +kernel)
theorem dX12_addsUp_358 : decode cX12_addsUp 358 = .ok (.iinc 4 1, 3) := dk_132 (by decide +kernel)
theorem dX12_addsUp_361 : decode cX12_addsUp 361 = .ok (.goto (-72), 3) := dk_167 (by decide +kernel)
theorem dX12_addsUp_364 : decode cX12_addsUp 364 = .ok (.aload_n 0, 1) := dk_42 (by decide +kernel)
theorem dX12_addsUp_365 : decode cX12_addsUp 365 = .ok (.aload_n 0, 1) := dk_42 (by decide +kernel)
theorem dX12_addsUp_366 : decode cX12_addsUp 366 = .ok (.iload_n 3, 1) := dk_29 (by decide +kernel)
theorem dX12_addsUp_367 : decode cX12_addsUp 367 = .ok (.aload_n 0, 1) := dk_42 (by decide +kernel)
theorem dX12_addsUp_368 : decode cX12_addsUp 368 = .ok (.getfield 396, 3) := dk_180 (by decide +kernel)
theorem dX12_addsUp_371 : decode cX12_addsUp 371 = .ok (.invokevirtual 405, 3) := dk_182 (by decide +kernel)
theorem dX12_addsUp_374 : decode cX12_addsUp 374 = .ok (.iload_n 2, 1) := dk_28 (by decide +kernel)
theorem dX12_addsUp_375 : decode cX12_addsUp 375 = .ok (.i2l, 1) := dk_133 (by decide +kernel)
theorem dX12_addsUp_376 : decode cX12_addsUp 376 = .ok (.invokevirtual 369, 3) := dk_182 (by decide +kernel)
theorem dX12_addsUp_379 : decode cX12_addsUp 379 = .ok (.iinc 2 (-2), 3) := dk_132 (by decide +kernel)
theorem dX12_addsUp_382 : decode cX12_addsUp 382 = .ok (.goto (-113), 3) := dk_167 (by decide +kernel)
theorem dX12_addsUp_385 : decode cX12_addsUp 385 = .ok (.aload_n 0, 1) := dk_42 (by decide +kernel)
theorem dX12_addsUp_386 : decode cX12_addsUp 386 = .ok (.invokevirtual 841, 3) := dk_182 (by decide +kernel)
theorem dX12_addsUp_389 : decode cX12_addsUp 389 = .ok (.aload_n 0, 1) := dk_42 (by decide +kernel)
theorem dX12_addsUp_390 : decode cX12_addsUp 390 = .ok (.invokevirtual 459, 3) := dk_182 (by decide +kernel)
theorem dX12_addsUp_393 : decode cX12_addsUp 393 = .ok (.istore_n 2, 1) := dk_61 (by decide +kernel)
theorem dX12_addsUp_394 : decode cX12_addsUp 394 = .ok (.iconst 0, 1) := dk_3 (by decide +kernel)
theorem dX12_addsUp_395 : decode cX12_addsUp 395 = .ok (.istore_n 3, 1) := dk_62 (by decide +kernel)
theorem dX12_addsUp_396 : decode cX12_addsUp 396 = .ok (.iload_n 3, 1) := dk_29 (by decide +kernel)
theorem dX12_addsUp_397 : decode cX12_addsUp 397 = .ok (.aload_n 0, 1) := dk_42 (by decide +kernel)
theorem dX12_addsUp_398 : decode cX12_addsUp 398 = .ok (.getfield 894, 3) := dk_180 (by decide +kernel)
theorem dX12_addsUp_401 : decode cX12_addsUp 401 = .ok (.if_icmp .ge 22, 3) := dk_162 (by decide +kernel)
theorem dX12_addsUp_404 : decode cX12_addsUp 404 = .ok (.aload_n 0, 1) := dk_42 (by decide +kernel)
theorem dX12_addsUp_405 : decode cX12_addsUp 405 = .ok (.iload_n 2, 1) := dk_28 (by decide +kernel)
theorem dX12_addsUp_406 : decode cX12_addsUp 406 = .ok (.iload_n 3, 1) := dk_29 (by decide +kernel)
theorem dX12_addsUp_407 : decode cX12_addsUp 407 = .ok (.aload_n 0, 1) := dk_42 (by decide +kernel)
theorem dX12_addsUp_408 : decode cX12_addsUp 408 = .ok (.iload_n 3, 1) := dk_29 (by decide +kernel)
theorem dX12_addsUp_409 : decode cX12_addsUp 409 = .ok (.iconst (-1), 1) := dk_2 (by decide +kernel)
theorem dX12_addsUp_410 : decode cX12_addsUp 410 = .ok (.invokevirtual 906, 3) := dk_182 (by decide +kernel)
theorem dX12_addsUp_413 : decode cX12_addsUp 413 = .ok (.iconst (-1), 1) := dk_2 (by decide +kernel)
theorem dX12_addsUp_414 : decode cX12_addsUp 414 = .ok (.invokevirtual 909, 3) := dk_182 (by decide +kernel)
theorem dX12_addsUp_417 : decode cX12_addsUp 417 = .ok (.iinc 3 1, 3) := dk_132 (by decide +kernel)
theorem dX12_addsUp_420 : decode cX12_addsUp 420 = .ok (.goto (-24), 3) := dk_167 (by decide +kernel)
theorem dX12_addsUp_423 : decode cX12_addsUp 423 = .ok (.aload_n 0, 1) := dk_42 (by decide +kernel)
theorem dX12_addsUp_424 : decode cX12_addsUp 424 = .ok (.invokevirtual 850, 3) := dk_182 (by decide +kernel)
theorem dX12_addsUp_427 : decode cX12_addsUp 427 = .ok (.ifCond .eq 15, 3) := dk_153 (by decide +kernel)
theorem dX12_addsUp_430 : decode cX12_addsUp 430 = .ok (.aload_n 0, 1) := dk_42 (by decide +kernel)
theorem dX12_addsUp_431 : decode cX12_addsUp 431 = .ok (.iload_n 2, 1) := dk_28 (by decide +kernel)
theorem dX12_addsUp_432 : decode cX12_addsUp 432 = .ok (.invokevirtual 465, 3) := dk_182 (by decide +kernel)
theorem dX12_addsUp_435 : decode cX12_addsUp 435 = .ok (.ifCond .eq 7, 3) := dk_153 (by decide +kernel)
theorem dX12_addsUp_438 : decode cX12_addsUp 438 = .ok (.iconst 1, 1) := dk_4 (by decide +kernel)
theorem dX12_addsUp_439 : decode cX12_addsUp 439 = .ok (.goto 4, 3) := dk_167 (by decide +kernel)
theorem dX12_addsUp_442 : decode cX12_addsUp 442 = .ok (.iconst 0, 1) := dk_3 (by decide +kernel)
theorem dX12_addsUp_443 : decode cX12_addsUp 443 = .ok (.istore_n 3, 1) := dk_62 (by decide +kernel)
theorem dX12_addsUp_444 : decode cX12_addsUp 444 = .ok (.aload_n 0, 1) := dk_42 (by decide +kernel)
theorem dX12_addsUp_445 : decode cX12_addsUp 445 = .ok (.invokevirtual 440, 3) := dk_182 (by decide +kernel)
theorem dX12_addsUp_448 : decode cX12_addsUp 448 = .ok (.iload_n 3, 1) := dk_29 (by decide +kernel)
theorem dX12_addsUp_449 : decode cX12_addsUp 449 = .ok (.ireturn, 1) := dk_172 (by decide +kernel)
def wsRX12_addsUp : List Cond := .code yX12_addsUp cX12_addsUp 6 (some .boolean) :: ([.fieldLink RX12 894 "OptimaWorksModel" "needs" "I", .fieldLink RX12 903 "OptimaWorksModel" "isShort" "Z", .fieldLink RX12 805 "OptimaWorksModel" "modelGoals" "I", .fieldLink RX12 774 "OptimaWorksModel" "variables" "I", .fieldLink RX12 396 "OptimaWorksModel" "columns" "I", .fieldLink RX12 242 "OptimaWorksModel" "needKept" "[I", .fieldLink RX12 245 "OptimaWorksModel" "needColumn" "[I", .fieldLink RX12 218 "OptimaWorksModel" "goalMax" "[I"] ++ wsX120 ++ (wsV RX12 835 RX12 yX12_begin wsRX12_begin) ++ (wsV RX12 369 RX12 yX12_put wsRX12_put) ++ (wsV RX12 844 RX12 yX12_scaleOf wsRX12_scaleOf) ++ (wsV RX12 365 RX12 yX12_copy wsRX12_copy) ++ (wsV RX12 823 RX12 yX12_newLine wsRX12_newLine) ++ (wsV RX12 405 RX12 yX12_at wsRX12_at) ++ (wsV RX12 900 RX12 yX12_isEqual wsRX12_isEqual) ++ (wsV RX12 841 RX12 yX12_start wsRX12_start) ++ (wsV RX12 459 RX12 yX12_goalRow wsRX12_goalRow) ++ (wsV RX12 850 RX12 yX12_canKeep wsRX12_canKeep) ++ (wsV RX12 465 RX12 yX12_raise wsRX12_raise) ++ (wsV RX12 440 RX12 yX12_spill wsRX12_spill) ++ (wsV RX12 906 RX12 yX12_needNumber wsRneedNb) ++ (wsV RX12 909 RX12 yX12_spread wsRX12_spread) ++ (wsV RX12 847 RX12 yX12_goalNumber wsRX12_goalNumber) ++ (wsV RX12 379 RX12 yX12_turn wsRX12_turn) ++ (wsV RX12 906 RX12 yX12_needNumber wsRneedNa))
theorem iwsRX12_addsUp_in12 : ∀ w ∈ wsX120, w ∈ wsRX12_addsUp := fun _ h => List.mem_cons_of_mem _ (List.mem_append_left _ (List.mem_append_left _ (List.mem_append_left _ (List.mem_append_left _ (List.mem_append_left _ (List.mem_append_left _ (List.mem_append_left _ (List.mem_append_left _ (List.mem_append_left _ (List.mem_append_left _ (List.mem_append_left _ (List.mem_append_left _ (List.mem_append_left _ (List.mem_append_left _ (List.mem_append_left _ (List.mem_append_left _ (List.mem_append_left _ (List.mem_append_right _ h))))))))))))))))))
theorem gwsRX12_addsUp_0 : GoodIn wsRX12_addsUp (wsV RX12 835 RX12 yX12_begin wsRX12_begin) := goodIn_sub (fun _ h => List.mem_cons_of_mem _ (List.mem_append_left _ (List.mem_append_left _ (List.mem_append_left _ (List.mem_append_left _ (List.mem_append_left _ (List.mem_append_left _ (List.mem_append_left _ (List.mem_append_left _ (List.mem_append_left _ (List.mem_append_left _ (List.mem_append_left _ (List.mem_append_left _ (List.mem_append_left _ (List.mem_append_left _ (List.mem_append_left _ (List.mem_append_left _ (List.mem_append_right _ h)))))))))))))))))) (gdV (by decide +kernel) gdwsRX12_begin)
theorem gwsRX12_addsUp_1 : GoodIn wsRX12_addsUp (wsV RX12 369 RX12 yX12_put wsRX12_put) := goodIn_sub (fun _ h => List.mem_cons_of_mem _ (List.mem_append_left _ (List.mem_append_left _ (List.mem_append_left _ (List.mem_append_left _ (List.mem_append_left _ (List.mem_append_left _ (List.mem_append_left _ (List.mem_append_left _ (List.mem_append_left _ (List.mem_append_left _ (List.mem_append_left _ (List.mem_append_left _ (List.mem_append_left _ (List.mem_append_left _ (List.mem_append_left _ (List.mem_append_right _ h))))))))))))))))) (gdV (by decide +kernel) gdwsRX12_put)
theorem gwsRX12_addsUp_2 : GoodIn wsRX12_addsUp (wsV RX12 844 RX12 yX12_scaleOf wsRX12_scaleOf) := goodIn_sub (fun _ h => List.mem_cons_of_mem _ (List.mem_append_left _ (List.mem_append_left _ (List.mem_append_left _ (List.mem_append_left _ (List.mem_append_left _ (List.mem_append_left _ (List.mem_append_left _ (List.mem_append_left _ (List.mem_append_left _ (List.mem_append_left _ (List.mem_append_left _ (List.mem_append_left _ (List.mem_append_left _ (List.mem_append_left _ (List.mem_append_right _ h)))))))))))))))) (gdV (by decide +kernel) gdwsRX12_scaleOf)
theorem gwsRX12_addsUp_3 : GoodIn wsRX12_addsUp (wsV RX12 365 RX12 yX12_copy wsRX12_copy) := goodIn_sub (fun _ h => List.mem_cons_of_mem _ (List.mem_append_left _ (List.mem_append_left _ (List.mem_append_left _ (List.mem_append_left _ (List.mem_append_left _ (List.mem_append_left _ (List.mem_append_left _ (List.mem_append_left _ (List.mem_append_left _ (List.mem_append_left _ (List.mem_append_left _ (List.mem_append_left _ (List.mem_append_left _ (List.mem_append_right _ h))))))))))))))) (gdV (by decide +kernel) gdwsRX12_copy)
theorem gwsRX12_addsUp_4 : GoodIn wsRX12_addsUp (wsV RX12 823 RX12 yX12_newLine wsRX12_newLine) := goodIn_sub (fun _ h => List.mem_cons_of_mem _ (List.mem_append_left _ (List.mem_append_left _ (List.mem_append_left _ (List.mem_append_left _ (List.mem_append_left _ (List.mem_append_left _ (List.mem_append_left _ (List.mem_append_left _ (List.mem_append_left _ (List.mem_append_left _ (List.mem_append_left _ (List.mem_append_left _ (List.mem_append_right _ h)))))))))))))) (gdV (by decide +kernel) gdwsRX12_newLine)
theorem gwsRX12_addsUp_5 : GoodIn wsRX12_addsUp (wsV RX12 405 RX12 yX12_at wsRX12_at) := goodIn_sub (fun _ h => List.mem_cons_of_mem _ (List.mem_append_left _ (List.mem_append_left _ (List.mem_append_left _ (List.mem_append_left _ (List.mem_append_left _ (List.mem_append_left _ (List.mem_append_left _ (List.mem_append_left _ (List.mem_append_left _ (List.mem_append_left _ (List.mem_append_left _ (List.mem_append_right _ h))))))))))))) (gdV (by decide +kernel) gdwsRX12_at)
theorem gwsRX12_addsUp_6 : GoodIn wsRX12_addsUp (wsV RX12 900 RX12 yX12_isEqual wsRX12_isEqual) := goodIn_sub (fun _ h => List.mem_cons_of_mem _ (List.mem_append_left _ (List.mem_append_left _ (List.mem_append_left _ (List.mem_append_left _ (List.mem_append_left _ (List.mem_append_left _ (List.mem_append_left _ (List.mem_append_left _ (List.mem_append_left _ (List.mem_append_left _ (List.mem_append_right _ h)))))))))))) (gdV (by decide +kernel) gdwsRX12_isEqual)
theorem gwsRX12_addsUp_7 : GoodIn wsRX12_addsUp (wsV RX12 841 RX12 yX12_start wsRX12_start) := goodIn_sub (fun _ h => List.mem_cons_of_mem _ (List.mem_append_left _ (List.mem_append_left _ (List.mem_append_left _ (List.mem_append_left _ (List.mem_append_left _ (List.mem_append_left _ (List.mem_append_left _ (List.mem_append_left _ (List.mem_append_left _ (List.mem_append_right _ h))))))))))) (gdV (by decide +kernel) gdwsRX12_start)
theorem gwsRX12_addsUp_8 : GoodIn wsRX12_addsUp (wsV RX12 459 RX12 yX12_goalRow wsRX12_goalRow) := goodIn_sub (fun _ h => List.mem_cons_of_mem _ (List.mem_append_left _ (List.mem_append_left _ (List.mem_append_left _ (List.mem_append_left _ (List.mem_append_left _ (List.mem_append_left _ (List.mem_append_left _ (List.mem_append_left _ (List.mem_append_right _ h)))))))))) (gdV (by decide +kernel) gdwsRX12_goalRow)
theorem gwsRX12_addsUp_9 : GoodIn wsRX12_addsUp (wsV RX12 850 RX12 yX12_canKeep wsRX12_canKeep) := goodIn_sub (fun _ h => List.mem_cons_of_mem _ (List.mem_append_left _ (List.mem_append_left _ (List.mem_append_left _ (List.mem_append_left _ (List.mem_append_left _ (List.mem_append_left _ (List.mem_append_left _ (List.mem_append_right _ h))))))))) (gdV (by decide +kernel) gdwsRX12_canKeep)
theorem gwsRX12_addsUp_10 : GoodIn wsRX12_addsUp (wsV RX12 465 RX12 yX12_raise wsRX12_raise) := goodIn_sub (fun _ h => List.mem_cons_of_mem _ (List.mem_append_left _ (List.mem_append_left _ (List.mem_append_left _ (List.mem_append_left _ (List.mem_append_left _ (List.mem_append_left _ (List.mem_append_right _ h)))))))) (gdV (by decide +kernel) gdwsRX12_raise)
theorem gwsRX12_addsUp_11 : GoodIn wsRX12_addsUp (wsV RX12 440 RX12 yX12_spill wsRX12_spill) := goodIn_sub (fun _ h => List.mem_cons_of_mem _ (List.mem_append_left _ (List.mem_append_left _ (List.mem_append_left _ (List.mem_append_left _ (List.mem_append_left _ (List.mem_append_right _ h))))))) (gdV (by decide +kernel) gdwsRX12_spill)
theorem gwsRX12_addsUp_12 : GoodIn wsRX12_addsUp (wsV RX12 906 RX12 yX12_needNumber wsRneedNb) := goodIn_sub (fun _ h => List.mem_cons_of_mem _ (List.mem_append_left _ (List.mem_append_left _ (List.mem_append_left _ (List.mem_append_left _ (List.mem_append_right _ h)))))) (gdV (by decide +kernel) gdwsRneedNb)
theorem gwsRX12_addsUp_13 : GoodIn wsRX12_addsUp (wsV RX12 909 RX12 yX12_spread wsRX12_spread) := goodIn_sub (fun _ h => List.mem_cons_of_mem _ (List.mem_append_left _ (List.mem_append_left _ (List.mem_append_left _ (List.mem_append_right _ h))))) (gdV (by decide +kernel) gdwsRX12_spread)
theorem gwsRX12_addsUp_14 : GoodIn wsRX12_addsUp (wsV RX12 847 RX12 yX12_goalNumber wsRX12_goalNumber) := goodIn_sub (fun _ h => List.mem_cons_of_mem _ (List.mem_append_left _ (List.mem_append_left _ (List.mem_append_right _ h)))) (gdV (by decide +kernel) gdwsRX12_goalNumber)
theorem gwsRX12_addsUp_15 : GoodIn wsRX12_addsUp (wsV RX12 379 RX12 yX12_turn wsRX12_turn) := goodIn_sub (fun _ h => List.mem_cons_of_mem _ (List.mem_append_left _ (List.mem_append_right _ h))) (gdV (by decide +kernel) gdwsRX12_turn)
theorem gwsRX12_addsUp_16 : GoodIn wsRX12_addsUp (wsV RX12 906 RX12 yX12_needNumber wsRneedNa) := goodIn_sub (fun _ h => List.mem_cons_of_mem _ (List.mem_append_right _ h)) (gdV (by decide +kernel) gdwsRneedNa)
theorem gdwsRX12_addsUp : wsRX12_addsUp.all goodWord = true := gdC rfl (gdA (gdA (gdA (gdA (gdA (gdA (gdA (gdA (gdA (gdA (gdA (gdA (gdA (gdA (gdA (gdA (gdA (gdA (by decide +kernel : ([.fieldLink RX12 894 "OptimaWorksModel" "needs" "I", .fieldLink RX12 903 "OptimaWorksModel" "isShort" "Z", .fieldLink RX12 805 "OptimaWorksModel" "modelGoals" "I", .fieldLink RX12 774 "OptimaWorksModel" "variables" "I", .fieldLink RX12 396 "OptimaWorksModel" "columns" "I", .fieldLink RX12 242 "OptimaWorksModel" "needKept" "[I", .fieldLink RX12 245 "OptimaWorksModel" "needColumn" "[I", .fieldLink RX12 218 "OptimaWorksModel" "goalMax" "[I"] : List Cond).all goodWord = true) gdwsX120) (gdV (by decide +kernel) gdwsRX12_begin)) (gdV (by decide +kernel) gdwsRX12_put)) (gdV (by decide +kernel) gdwsRX12_scaleOf)) (gdV (by decide +kernel) gdwsRX12_copy)) (gdV (by decide +kernel) gdwsRX12_newLine)) (gdV (by decide +kernel) gdwsRX12_at)) (gdV (by decide +kernel) gdwsRX12_isEqual)) (gdV (by decide +kernel) gdwsRX12_start)) (gdV (by decide +kernel) gdwsRX12_goalRow)) (gdV (by decide +kernel) gdwsRX12_canKeep)) (gdV (by decide +kernel) gdwsRX12_raise)) (gdV (by decide +kernel) gdwsRX12_spill)) (gdV (by decide +kernel) gdwsRneedNb)) (gdV (by decide +kernel) gdwsRX12_spread)) (gdV (by decide +kernel) gdwsRX12_goalNumber)) (gdV (by decide +kernel) gdwsRX12_turn)) (gdV (by decide +kernel) gdwsRneedNa))
theorem hm_r_X12_addsUp_0 : (.fieldLink RX12 894 "OptimaWorksModel" "needs" "I" : Cond) ∈ wsRX12_addsUp := by decide +kernel
theorem hm_r_X12_addsUp_1 : (.fieldLink RX12 903 "OptimaWorksModel" "isShort" "Z" : Cond) ∈ wsRX12_addsUp := by decide +kernel
theorem hm_r_X12_addsUp_2 : (.fieldLink RX12 805 "OptimaWorksModel" "modelGoals" "I" : Cond) ∈ wsRX12_addsUp := by decide +kernel
theorem hm_r_X12_addsUp_3 : (.fieldLink RX12 396 "OptimaWorksModel" "columns" "I" : Cond) ∈ wsRX12_addsUp := by decide +kernel
theorem hm_r_X12_addsUp_4 : (.fieldLink RX12 242 "OptimaWorksModel" "needKept" "[I" : Cond) ∈ wsRX12_addsUp := by decide +kernel
theorem hm_r_X12_addsUp_5 : (.fieldLink RX12 245 "OptimaWorksModel" "needColumn" "[I" : Cond) ∈ wsRX12_addsUp := by decide +kernel
set_option maxHeartbeats 4000000 in
set_option maxRecDepth 100000 in
/-- addsUp() -/
theorem r_X12_addsUp (l : Launch) (dC : Nat → ClassId) (dI : Nat → Nat → Nat) (a : Nat → Nat) (k : Nat → ClassId) (h0 : Nat) (vi : Nat → Int32) (vj : Nat → Int64) (vF : Nat → Nat → Int32) (vG : Nat → Nat → Int64) (vn : Nat) (mr : Nat) (gq : Nat) (z : Nat) (nd : Nat) (mg : Nat → Int) (hBg : Bg (vF 0) mg) (hvn : vi 90 = nI vn) (hvn8 : vn ≤ 8) (hmr12 : mr ≤ 12) (hmg : vi 93 = nI gq) (hgq : gq ≤ 3) (hM : MdlB vF gq) (hnd : vi 119 = nI nd) (hN : NdO (vF 71) (vF 72) vn mr z nd) (sz : Nat) : Met l yX12_addsUp wsRX12_addsUp ({ frames := 6, cells := 0, slots := 0, locals := 157 }) (va_Pc [.ref h0] (fun U => U.heap.size = sz ∧ va_P (dC, dI) vwCl (WR a k h0 vi vj vF vG) U.heap ∧ va_K (dC, dI) vwCl (tX12 k) U ∧ va_D (fun _ => True) (WR a k h0 vi vj vF vG))) (va_Qi (fun (r : Int32) (u : (Nat → Int32) × (Nat → Int32) × (Nat → Int32) × (Nat → Int32) × (Nat → Int32) × (Nat → Int32) × (Nat → Int32) × (Nat → Int64) × (Nat → Int64) × (Nat → Int64) × (Int64) × (Nat) × (Nat) × (Nat → Nat → Int) × (Int) × (Nat → Int)) => (Bg (u.1) (u.2.2.2.2.2.2.2.2.2.2.2.2.2.2.2)) ∧ (TabN (u.2.2.2.2.2.2.2.2.2.2.2.1) ((u.2.2.2.2.2.2.2.2.2.2.2.2.1) + 2) (u.2.2.2.2.2.2.2.2.2.2.2.2.2.2.2) (u.2.2.2.2.2.2.2.2.2.2.2.2.2.1) (u.2.2.2.2.2.2.2.2.2.2.2.2.2.2.1)) ∧ (0 < (u.2.2.2.2.2.2.2.2.2.2.2.2.2.2.1) ∧ Sz 258 (u.2.2.2.2.2.2.2.2.2.2.2.2.2.2.1)) ∧ (∀ i, i < (u.2.2.2.2.2.2.2.2.2.2.2.2.1) → Sz 258 ((u.2.2.2.2.2.2.2.2.2.2.2.2.2.1) i (u.2.2.2.2.2.2.2.2.2.2.2.1))) ∧ (∀ i, i < (u.2.2.2.2.2.2.2.2.2.2.2.2.1) + 2 → Sz 294 ((u.2.2.2.2.2.2.2.2.2.2.2.2.2.1) i (u.2.2.2.2.2.2.2.2.2.2.2.1))) ∧ (0 < (u.2.2.2.2.2.2.2.2.2.2.2.1) ∧ (u.2.2.2.2.2.2.2.2.2.2.2.1) ≤ 41 ∧ (u.2.2.2.2.2.2.2.2.2.2.2.2.1) ≤ 18) ∧ (0 < (u.2.2.2.2.2.2.2.2.2.2.2.2.2.2.2) 1045 ∧ Sz 67 ((u.2.2.2.2.2.2.2.2.2.2.2.2.2.2.2) 1045) ∧ (vi 118 ≠ 0 → (u.2.2.2.2.2.2.2.2.2.2.2.2.2.2.2) 1045 = 1)) ∧ (∀ q, 1000 ≤ q → q ≠ 1045 → (u.2.2.2.2.2.2.2.2.2.2.2.2.2.2.2) q = mg q) ∧ ((r) = 0 ∨ (r) = 1)) (fun (u : (Nat → Int32) × (Nat → Int32) × (Nat → Int32) × (Nat → Int32) × (Nat → Int32) × (Nat → Int32) × (Nat → Int32) × (Nat → Int64) × (Nat → Int64) × (Nat → Int64) × (Int64) × (Nat) × (Nat) × (Nat → Nat → Int) × (Int) × (Nat → Int)) t => va_P (dC, dI) vwCl (WR a k h0 (fT (fT (fT (fT vi 5 (nI (u.2.2.2.2.2.2.2.2.2.2.2.1))) 6 (nI (u.2.2.2.2.2.2.2.2.2.2.2.2.1))) 7 (nI 2)) 11 0) (fT vj 12 (u.2.2.2.2.2.2.2.2.2.2.1)) (fT (fT (fT (fT (fT (fT (fT vF 74 (u.2.2.2.2.2.2.1)) 0 (u.1)) 4 (u.2.2.2.1)) 6 (u.2.2.2.2.2.1)) 2 (u.2.1)) 3 (u.2.2.1)) 5 (u.2.2.2.2.1)) (fT (fT (fT vG 1 (u.2.2.2.2.2.2.2.1)) 7 (u.2.2.2.2.2.2.2.2.1)) 8 (u.2.2.2.2.2.2.2.2.2.1))) t.heap ∧ va_D (va_A (WR a k h0 vi vj vF vG) sz) (WR a k h0 (fT (fT (fT (fT vi 5 (nI (u.2.2.2.2.2.2.2.2.2.2.2.1))) 6 (nI (u.2.2.2.2.2.2.2.2.2.2.2.2.1))) 7 (nI 2)) 11 0) (fT vj 12 (u.2.2.2.2.2.2.2.2.2.2.1)) (fT (fT (fT (fT (fT (fT (fT vF 74 (u.2.2.2.2.2.2.1)) 0 (u.1)) 4 (u.2.2.2.1)) 6 (u.2.2.2.2.2.1)) 2 (u.2.1)) 3 (u.2.2.1)) 5 (u.2.2.2.2.1)) (fT (fT (fT vG 1 (u.2.2.2.2.2.2.2.1)) 7 (u.2.2.2.2.2.2.2.2.1)) 8 (u.2.2.2.2.2.2.2.2.2.1)))) (va_A (WR a k h0 vi vj vF vG) sz)) 0 0 (va_A (WR a k h0 vi vj vF vG) sz) := by
  refine Met.ofW (cc := cX12_addsUp) (maxL := 6) (ret := (some .boolean)) (by decide) rfl ?_
  intro p e s m args below meth c s₁ B hml hv
  obtain ⟨rfl, hsz, hP, hK, hD0⟩ := hv
  have hx := B.exec
  have hb := B.bytes
  have hr := B.returns
  have hts := atoms_spec (ws := wsRX12_addsUp) B.pre
  have hown : s.vm.findClass RX12 = some m.cls := findClass_of_methodNamed B.named
  have hlocks := B.notSynchronized
  subst hsz
  have hD := hD0.self (sz := s.heap.size)
  generalize hAe : va_A (WR a k h0 vi vj vF vG) s.heap.size = A at hD ⊢
  have hA : ∀ q : Nat, s.heap.size ≤ q → A q := fun q h => by rw [← hAe]; exact Or.inr h
  have hS : va_S A s.heap s.heap [] := va_S.rf
  have hl := lv_entry ([.ref h0]) (n := 6) (Nat.le_of_ble_eq_true rfl)
  rw [lg_entry_eq]
  generalize (lg_sl ([.ref h0]) ++ List.replicate (6 - (lg_sl ([.ref h0])).length) Slot.unset).toArray = ls at hl ⊢
  have hl : lv_has ls 6 [(0, .ref h0)] := hl
  have z9 := nI_0
  have hz1 : z ≤ 12 ∧ nd ≤ z + 16 ∧ nd ≤ 28 := by have h1 := hN.1; have h2 := hN.2.2.1; omega
  have hcz := hN.cz (vF 61) (vF 73)
  obtain ⟨Bs, hBs⟩ : ∃ Bs : Nat, Bs = if vi 118 = 0 then 2 ^ 74 else 1 := ⟨_, rfl⟩
  have hBs1 : 1 ≤ Bs := by rw [hBs]; split; (exact Nat.one_le_two_pow); (exact Nat.le_refl 1)
  refine lv_iconst (v := 0) hx hb dX12_addsUp_0 (by decide) ?_
  refine lv_istore_n hx hb dX12_addsUp_1 rfl hl (by decide) rfl (fun ls (hl : lv_has ls _ ([(1, .int 0), (0, .ref h0)])) => ?_)
  refine lv_iconst (v := 0) hx hb dX12_addsUp_2 (by decide) ?_
  refine lv_istore_n hx hb dX12_addsUp_3 rfl hl (by decide) rfl (fun ls (hl : lv_has ls _ ([(2, .int 0), (1, .int 0), (0, .ref h0)])) => ?_)
  have e9 : fT vF 74 (vF 74) = vF := by funext q9; by_cases h9_74 : q9 = 74; (subst h9_74; exact (fT_eq _ _ _).trans (Eq.trans (by first | with_reducible rfl | with_reducible assumption | (symm; with_reducible assumption) | rfl | assumption | (symm; assumption) | (subst_vars; rfl)) (Eq.refl _).symm)); exact (fT_ne _ _ h9_74).trans (Eq.refl _).symm
  have hP := wr_PF e9 hP
  have hD := wr_DF e9 hD
  clear e9
  have hl : lv_has _ _ ([(0, .ref h0), (1, .int (nI 0)), (2, .int (nI 0))]) := lv_sub hl [2, 1, 0] rfl
  refine (fun (loop : ∀ (n9 : Nat) (i5 : Nat) (cc : Nat) (f74x : Nat → Int32) (H : Heap) (locs : List Loc) (ls : Array Slot), (i5 ≤ nd) → (cc = ncS (ncw (vF 61) (vF 71) (vF 72) (vF 73)) i5) → (∀ q, q < i5 → f74x q = nI (ncS (ncw (vF 61) (vF 71) (vF 72) (vF 73)) q)) →  (nd < i5 + n9) → va_P (dC, dI) vwCl (WR a k h0 vi vj (fT vF 74 f74x) vG) H → va_D A (WR a k h0 vi vj (fT vF 74 f74x) vG) → va_S A s.heap H locs → lv_has ls 6 [(0, .ref h0), (1, .int (nI cc)), (2, .int (nI i5))] → W p l e _ s m _ below meth c H locs 0 0 _ (F0 m 4 ls [])) => loop (nd + 1) 0 0 (vF 74) _ _ _ (by omega) (rfl) (fun q hq => absurd hq (by omega)) (by omega) hP hD hS hl) ?_
  intro n9
  induction n9 with
  | zero => intro i5 cc f74x H locs ls hi5 hcc h74 hf9; exact False.elim (by omega)
  | succ n9 ih4 =>
    intro i5 cc f74x H locs ls hi5 hcc h74 hf4 hP hD hS hl
    refine lv_iload_n hx hb dX12_addsUp_4 rfl (lv_at hl 2 rfl) ?_
    refine lv_aload_n hx hb dX12_addsUp_5 rfl (lv_at hl 0 rfl) ?_
    refine va_get (D := (dC, dI)) (ci := 12) (v := .int (vi 119)) (C := RX12) (T := TX12) (N := 163) (fs := fM (vS a vi vj)) hx hb hts iwsRX12_addsUp_in12 hown hK hP 0 rfl rfl 119 (by decide) (hts _ hm_r_X12_addsUp_0) (fun _ h9 => h9) rfl dX12_addsUp_6 ?_
    refine lv_topi (fun y1 hy1 => ?_)
    obtain rfl : (nI nd) = y1 := (hy1.trans (hnd)).symm
    refine lv_icmp_ge (tgt := 54) hx hb dX12_addsUp_9 (by decide) (fun c_9 => ?_) (fun c_9 => ?_)
    · have t_9 : ((i5 : Nat) : Int) ≥ ((nd : Nat) : Int) := toI_ge c_9 (nI_toInt (by omega)) (nI_toInt (by omega))
      have ei5 : i5 = nd := by omega
      have hcc2 : cc = ncS (ncw (vF 61) (vF 71) (vF 72) (vF 73)) nd := by rw [hcc, ei5]
      have h40 : cc ≤ 40 ∧ cc ≤ ncS (ncw (vF 61) (vF 71) (vF 72) (vF 73)) z + 16 ∧ ncS (ncw (vF 61) (vF 71) (vF 72) (vF 73)) z ≤ 24 := by omega
      have hin : ∀ i, i < nd → ncS (ncw (vF 61) (vF 71) (vF 72) (vF 73)) i + (ncw (vF 61) (vF 71) (vF 72) (vF 73)) i ≤ cc := fun i hi => by rw [hcc2]; exact ncS_in hi
      have hex : ∀ y, y ≤ 20 → y * (cc + 1 + 1) ≤ 20 * 42 := fun y hy => Nat.mul_le_mul hy (by omega)
      refine lv_aload_n hx hb dX12_addsUp_54 rfl (lv_at hl 0 rfl) ?_
      refine lv_iload_n hx hb dX12_addsUp_55 rfl (lv_at hl 1 rfl) ?_
      have hFc := allFree hD hS hA
      refine va_callv (va_runV (As := [.int (nI cc)]) (rest := []) ⟨hx, hb, hml, hown, hts⟩ (r_X12_begin l dC dI a k h0 vi vj (fT vF 74 f74x) vG cc mg hBg (by first | with_reducible assumption | decide | omega | rfl | assumption) H.size) (cwV 1 hts gwsRX12_addsUp_0 rfl rfl rfl hd_yX12_begin_RX12 (by decide +kernel)) (fz_pre (va_recv hK hP (ci := 12) (q0 := 0) rfl rfl) hP hK hD) rfl rfl hl.1 rfl (lv_room (Nat.le_of_ble_eq_true rfl)) dX12_addsUp_56 (by decide +kernel)) hS (fun q _ h => hFc q h) hFc (fun u t9_ H locs ht hvm hw9 hB9 hz1 hk1 hS => ?_)
      revert u hw9 hB9
      refine fz_p3 ?_
      intro g56 f456 f656 hw9 hB9
      try dsimp only at hw9 hB9
      have hP : va_P (dC, dI) vwCl (WR a k h0 (fT (fT (fT vi 5 (nI (cc + 1))) 6 0) 7 0) vj (fT (fT (fT (fT vF 74 f74x) 0 g56) 4 f456) 6 f656) vG) H := fz_P ht hB9.1
      have hD := fz_sd hP (hB9.2.weaken (fun _ q _ h => hFc q.1 h)) rfl
      revert hw9
      refine fz_a3 ?_
      intro f56_0 f56_1 f56_2
      refine lv_aload_n hx hb dX12_addsUp_59 rfl (lv_at hl 0 rfl) ?_
      refine va_get (D := (dC, dI)) (ci := 12) (v := .int (vi 118)) (C := RX12) (T := TX12) (N := 163) (fs := fM (vS a (fT (fT (fT vi 5 (nI (cc + 1))) 6 0) 7 0) vj)) hx hb hts iwsRX12_addsUp_in12 hown hK hP 0 rfl rfl 118 (by decide) (hts _ hm_r_X12_addsUp_1) (fun _ h9 => h9) rfl dX12_addsUp_60 ?_
      refine W.cut (pc := 88) (fun H locs ls stk => ∃ (gS : Nat → Int32) (f2S : Nat → Int32) (f3S : Nat → Int32) (gsS : Nat → Int64) (mS : Nat → Int), (Bg gS mS) ∧ (0 < mS 19) ∧ ((mS 19).natAbs < 2 ^ 67) ∧ (vi 118 ≠ 0 → mS 19 = 1) ∧ (mS 20 = 1) ∧ (∀ q, 1000 ≤ q → mS q = mg q) ∧  stk = [] ∧ va_P (dC, dI) vwCl (WR a k h0 (fT (fT (fT vi 5 (nI (cc + 1))) 6 0) 7 0) vj (fT (fT (fT (fT (fT (fT vF 74 f74x) 0 gS) 4 f456) 6 f656) 2 f2S) 3 f3S) (fT vG 1 gsS)) H ∧ va_D A (WR a k h0 (fT (fT (fT vi 5 (nI (cc + 1))) 6 0) 7 0) vj (fT (fT (fT (fT (fT (fT vF 74 f74x) 0 gS) 4 f456) 6 f656) 2 f2S) 3 f3S) (fT vG 1 gsS)) ∧ va_S A s.heap H locs ∧ lv_has ls 6 [(0, .ref h0)]) (fun join1 => ?_) ?_
      · refine lv_if_ne (tgt := 81) hx hb dX12_addsUp_63 (by decide) (fun c_63 => ?_) (fun c_63 => ?_)
        · have t_63 : ((vi 118)).toInt ≠ 0 := toI_ne c_63 rfl (by decide)
          refine lv_aload_n hx hb dX12_addsUp_81 rfl (lv_at hl 0 rfl) ?_
          refine lv_bipush (v := 19) hx hb dX12_addsUp_82 (by decide) ?_
          refine lv_lconst (v := 1) hx hb dX12_addsUp_84 (by decide) ?_
          have hFc := allFree hD hS hA
          refine va_callv (va_runV (As := [.int 19, .long 1]) (rest := []) ⟨hx, hb, hml, hown, hts⟩ (b_X12_put l dC dI a k h0 (fT (fT (fT vi 5 (nI (cc + 1))) 6 0) 7 0) vj (fT (fT (fT (fT vF 74 f74x) 0 g56) 4 f456) 6 f656) vG 19 1 1 (fT mg 20 1) f56_0 (by first | with_reducible assumption | decide | omega | rfl | assumption) (by decide) (by first | with_reducible assumption | decide | omega | rfl | assumption) H.size) (cwV 2 hts gwsRX12_addsUp_1 rfl rfl rfl hd_yX12_put_RX12 (by decide +kernel)) (fz_pre (va_recv hK hP (ci := 12) (q0 := 0) rfl rfl) hP hK hD) rfl rfl hl.1 rfl (lv_room (Nat.le_of_ble_eq_true rfl)) dX12_addsUp_85 (by decide +kernel)) hS (fun q _ h => hFc q h) hFc (fun g85 t9_ H locs ht hvm hw9 hB9 hz1 hk1 hS => ?_)
          have e9F : fT (fT (fT (fT vF 74 f74x) 0 g85) 4 f456) 6 f656 = fT (fT (fT (fT (fT vF 74 f74x) 0 g56) 4 f456) 6 f656) 0 g85 := ((fT_sw _ _ _ (Nat.ne_of_beq_eq_false rfl)).trans (congrArg (fun g9 => fT g9 6 f656) ((fT_sw _ _ _ (Nat.ne_of_beq_eq_false rfl)).trans (congrArg (fun g9 => fT g9 4 f456) (fT_sm _ _ _ _))))).symm
          have hP := wr_PF e9F (fz_P ht hB9.1)
          have hD := wr_DF e9F (hB9.2.weaken (fun _ q _ h => hFc q.1 h))
          clear e9F
          have f85_0 := hw9
          try dsimp only at f85_0
          have e9 : fT (fT (fT (fT (fT (fT vF 74 f74x) 0 g85) 4 f456) 6 f656) 2 (vF 2)) 3 (vF 3) = fT (fT (fT (fT vF 74 f74x) 0 g85) 4 f456) 6 f656 := Eq.trans (mv_1 rfl) (Eq.trans (id_5 rfl) (id_4 rfl))
          have hP := wr_PF e9 hP
          have hD := wr_DF e9 hD
          clear e9
          have e9 : fT vG 1 (vG 1) = vG := by funext q9; by_cases h9_1 : q9 = 1; (subst h9_1; exact (fT_eq _ _ _).trans (Eq.trans (by first | with_reducible rfl | with_reducible assumption | (symm; with_reducible assumption) | rfl | assumption | (symm; assumption) | (subst_vars; rfl)) (Eq.refl _).symm)); exact (fT_ne _ _ h9_1).trans (Eq.refl _).symm
          have hP := wr_PG e9 hP
          have hD := wr_DG e9 hD
          clear e9
          have hl : lv_has _ _ ([(0, .ref h0)]) := lv_sub hl [0] rfl
          exact join1 _ _ _ _ ⟨g85, (vF 2), (vF 3), (vG 1), (fT (fT mg 20 1) 19 1), f85_0, by (have e9 : (fT (fT mg 20 1) 19 1) 19 = 1 := (by rw [fT_eq])); rw [e9]; decide, by (have e9 : (fT (fT mg 20 1) 19 1) 19 = 1 := (by rw [fT_eq])); rw [e9]; decide, fun _ => (by rw [fT_eq]), (by rw [fT_ne _ _ (by omega), fT_eq]), fun q hq => by (rw [fT_ne _ _ (by omega), fT_ne _ _ (by omega)]), rfl, hP, hD, hS, hl⟩
        · have t_63 : ((vi 118)).toInt = 0 := toI_nne c_63 rfl (by decide)
          refine lv_aload_n hx hb dX12_addsUp_66 rfl (lv_at hl 0 rfl) ?_
          refine va_get (D := (dC, dI)) (ci := 12) (v := .int (vi 93)) (C := RX12) (T := TX12) (N := 163) (fs := fM (vS a (fT (fT (fT vi 5 (nI (cc + 1))) 6 0) 7 0) vj)) hx hb hts iwsRX12_addsUp_in12 hown hK hP 0 rfl rfl 93 (by decide) (hts _ hm_r_X12_addsUp_2) (fun _ h9 => h9) rfl dX12_addsUp_67 ?_
          refine lv_topi (fun y2 hy2 => ?_)
          obtain rfl : (nI gq) = y2 := (hy2.trans (hmg)).symm
          refine lv_if_le (tgt := 81) hx hb dX12_addsUp_70 (by decide) (fun c_70 => ?_) (fun c_70 => ?_)
          · have t_70 : ((gq : Nat) : Int) ≤ 0 := toI_le c_70 (nI_toInt (by omega)) (by decide)
            refine lv_aload_n hx hb dX12_addsUp_81 rfl (lv_at hl 0 rfl) ?_
            refine lv_bipush (v := 19) hx hb dX12_addsUp_82 (by decide) ?_
            refine lv_lconst (v := 1) hx hb dX12_addsUp_84 (by decide) ?_
            have hFc := allFree hD hS hA
            refine va_callv (va_runV (As := [.int 19, .long 1]) (rest := []) ⟨hx, hb, hml, hown, hts⟩ (b_X12_put l dC dI a k h0 (fT (fT (fT vi 5 (nI (cc + 1))) 6 0) 7 0) vj (fT (fT (fT (fT vF 74 f74x) 0 g56) 4 f456) 6 f656) vG 19 1 1 (fT mg 20 1) f56_0 (by first | with_reducible assumption | decide | omega | rfl | assumption) (by decide) (by first | with_reducible assumption | decide | omega | rfl | assumption) H.size) (cwV 2 hts gwsRX12_addsUp_1 rfl rfl rfl hd_yX12_put_RX12 (by decide +kernel)) (fz_pre (va_recv hK hP (ci := 12) (q0 := 0) rfl rfl) hP hK hD) rfl rfl hl.1 rfl (lv_room (Nat.le_of_ble_eq_true rfl)) dX12_addsUp_85 (by decide +kernel)) hS (fun q _ h => hFc q h) hFc (fun g85_1 t9_ H locs ht hvm hw9 hB9 hz1 hk1 hS => ?_)
            have e9F : fT (fT (fT (fT vF 74 f74x) 0 g85_1) 4 f456) 6 f656 = fT (fT (fT (fT (fT vF 74 f74x) 0 g56) 4 f456) 6 f656) 0 g85_1 := ((fT_sw _ _ _ (Nat.ne_of_beq_eq_false rfl)).trans (congrArg (fun g9 => fT g9 6 f656) ((fT_sw _ _ _ (Nat.ne_of_beq_eq_false rfl)).trans (congrArg (fun g9 => fT g9 4 f456) (fT_sm _ _ _ _))))).symm
            have hP := wr_PF e9F (fz_P ht hB9.1)
            have hD := wr_DF e9F (hB9.2.weaken (fun _ q _ h => hFc q.1 h))
            clear e9F
            have f85_1_0 := hw9
            try dsimp only at f85_1_0
            have e9 : fT (fT (fT (fT (fT (fT vF 74 f74x) 0 g85_1) 4 f456) 6 f656) 2 (vF 2)) 3 (vF 3) = fT (fT (fT (fT vF 74 f74x) 0 g85_1) 4 f456) 6 f656 := Eq.trans (mv_1 rfl) (Eq.trans (id_5 rfl) (id_4 rfl))
            have hP := wr_PF e9 hP
            have hD := wr_DF e9 hD
            clear e9
            have e9 : fT vG 1 (vG 1) = vG := by funext q9; by_cases h9_1 : q9 = 1; (subst h9_1; exact (fT_eq _ _ _).trans (Eq.trans (by first | with_reducible rfl | with_reducible assumption | (symm; with_reducible assumption) | rfl | assumption | (symm; assumption) | (subst_vars; rfl)) (Eq.refl _).symm)); exact (fT_ne _ _ h9_1).trans (Eq.refl _).symm
            have hP := wr_PG e9 hP
            have hD := wr_DG e9 hD
            clear e9
            have hl : lv_has _ _ ([(0, .ref h0)]) := lv_sub hl [0] rfl
            exact join1 _ _ _ _ ⟨g85_1, (vF 2), (vF 3), (vG 1), (fT (fT mg 20 1) 19 1), f85_1_0, by (have e9 : (fT (fT mg 20 1) 19 1) 19 = 1 := (by rw [fT_eq])); rw [e9]; decide, by (have e9 : (fT (fT mg 20 1) 19 1) 19 = 1 := (by rw [fT_eq])); rw [e9]; decide, fun _ => (by rw [fT_eq]), (by rw [fT_ne _ _ (by omega), fT_eq]), fun q hq => by (rw [fT_ne _ _ (by omega), fT_ne _ _ (by omega)]), rfl, hP, hD, hS, hl⟩
          · have t_70 : ¬ ((gq : Nat) : Int) ≤ 0 := toI_nle c_70 (nI_toInt (by omega)) (by decide)
            refine lv_aload_n hx hb dX12_addsUp_73 rfl (lv_at hl 0 rfl) ?_
            refine lv_iconst (v := 0) hx hb dX12_addsUp_74 (by decide) ?_
            have hFc := allFree hD hS hA
            refine va_callv (va_runV (As := [.int 0]) (rest := []) ⟨hx, hb, hml, hown, hts⟩ (r_X12_scaleOf l dC dI a k h0 (fT (fT (fT vi 5 (nI (cc + 1))) 6 0) 7 0) vj (fT (fT (fT (fT vF 74 f74x) 0 g56) 4 f456) 6 f656) vG 0 gq (fT mg 20 1) f56_0 (by omega) (by first | with_reducible assumption | decide | omega | rfl | assumption) (by first | with_reducible assumption | decide | omega | rfl | assumption) H.size) (cwV 1 hts gwsRX12_addsUp_2 rfl rfl rfl hd_yX12_scaleOf_RX12 (by decide +kernel)) (fz_pre (va_recv hK hP (ci := 12) (q0 := 0) rfl rfl) hP hK hD) rfl rfl hl.1 rfl (lv_room (Nat.le_of_ble_eq_true rfl)) dX12_addsUp_75 (by decide +kernel)) hS (fun q _ h => hFc q h) hFc (fun u t9_ H locs ht hvm hw9 hB9 hz1 hk1 hS => ?_)
            revert u hw9 hB9
            refine fz_p5 ?_
            intro g75 f2w75 f3w75 gs75 m275 hw9 hB9
            try dsimp only at hw9 hB9
            have e9F : fT (fT (fT (fT (fT (fT vF 74 f74x) 0 g75) 4 f456) 6 f656) 2 f2w75) 3 f3w75 = fT (fT (fT (fT (fT (fT (fT vF 74 f74x) 0 g56) 4 f456) 6 f656) 0 g75) 2 f2w75) 3 f3w75 := (congrArg (fun g9 => fT (fT g9 2 f2w75) 3 f3w75) ((fT_sw _ _ _ (Nat.ne_of_beq_eq_false rfl)).trans (congrArg (fun g9 => fT g9 6 f656) ((fT_sw _ _ _ (Nat.ne_of_beq_eq_false rfl)).trans (congrArg (fun g9 => fT g9 4 f456) (fT_sm _ _ _ _)))))).symm
            have hP := wr_PF e9F (fz_P ht hB9.1)
            have hD := wr_DF e9F (hB9.2.weaken (fun _ q _ h => hFc q.1 h))
            clear e9F
            revert hw9
            refine fz_a4 ?_
            intro f75_0 f75_1 f75_2 f75_3
            refine lv_goto (tgt := 88) hx hb dX12_addsUp_78 (by decide) ?_
            have hl : lv_has _ _ ([(0, .ref h0)]) := lv_sub hl [0] rfl
            exact join1 _ _ _ _ ⟨g75, f2w75, f3w75, gs75, m275, f75_0, f75_1, f75_2, fun h9 => absurd c_63 h9, (by rw [f75_3 _ (by omega), fT_eq]), fun q hq => by (rw [f75_3 _ (by omega), fT_ne _ _ (by omega)]), rfl, hP, hD, hS, hl⟩
      · rintro H locs ls stk ⟨gS, f2S, f3S, gsS, mS, hBS, h19p, h19b, h19s, h20S, hoS, rfl, hP, hD, hS, hl⟩
        refine lv_aload_n hx hb dX12_addsUp_88 rfl (lv_at hl 0 rfl) ?_
        refine lv_sipush (v := 1045) hx hb dX12_addsUp_89 (by decide) ?_
        refine lv_bipush (v := 19) hx hb dX12_addsUp_92 (by decide) ?_
        have hFc := allFree hD hS hA
        refine va_callv (va_runV (As := [.int 1045, .int 19]) (rest := []) ⟨hx, hb, hml, hown, hts⟩ (b_X12_copy l dC dI a k h0 (fT (fT (fT vi 5 (nI (cc + 1))) 6 0) 7 0) vj (fT (fT (fT (fT (fT (fT vF 74 f74x) 0 gS) 4 f456) 6 f656) 2 f2S) 3 f3S) (fT vG 1 gsS) 1045 19 mS hBS (mS 19) rfl (by first | with_reducible assumption | decide | omega | rfl | assumption) (by first | with_reducible assumption | decide | omega | rfl | assumption) (by first | with_reducible assumption | decide | omega | rfl | assumption) H.size) (cwV 2 hts gwsRX12_addsUp_3 rfl rfl rfl hd_yX12_copy_RX12 (by decide +kernel)) (fz_pre (va_recv hK hP (ci := 12) (q0 := 0) rfl rfl) hP hK hD) rfl rfl hl.1 rfl (lv_room (Nat.le_of_ble_eq_true rfl)) dX12_addsUp_94 (by decide +kernel)) hS (fun q _ h => hFc q h) hFc (fun g94 t9_ H locs ht hvm hw9 hB9 hz1 hk1 hS => ?_)
        have e9F : fT (fT (fT (fT (fT (fT vF 74 f74x) 0 g94) 4 f456) 6 f656) 2 f2S) 3 f3S = fT (fT (fT (fT (fT (fT (fT vF 74 f74x) 0 gS) 4 f456) 6 f656) 2 f2S) 3 f3S) 0 g94 := ((fT_sw _ _ _ (Nat.ne_of_beq_eq_false rfl)).trans (congrArg (fun g9 => fT g9 3 f3S) ((fT_sw _ _ _ (Nat.ne_of_beq_eq_false rfl)).trans (congrArg (fun g9 => fT g9 2 f2S) ((fT_sw _ _ _ (Nat.ne_of_beq_eq_false rfl)).trans (congrArg (fun g9 => fT g9 6 f656) ((fT_sw _ _ _ (Nat.ne_of_beq_eq_false rfl)).trans (congrArg (fun g9 => fT g9 4 f456) (fT_sm _ _ _ _))))))))).symm
        have hP := wr_PF e9F (fz_P ht hB9.1)
        have hD := wr_DF e9F (hB9.2.weaken (fun _ q _ h => hFc q.1 h))
        clear e9F
        have f94_0 := hw9
        try dsimp only at f94_0
        refine lv_iconst (v := 0) hx hb dX12_addsUp_97 (by decide) ?_
        refine lv_istore_n hx hb dX12_addsUp_98 rfl hl (by decide) rfl (fun ls (hl : lv_has ls _ ([(2, .int 0), (0, .ref h0)])) => ?_)
        have e9 : fT (fT (fT vi 5 (nI (cc + 1))) 6 (nI (2 * 0))) 7 0 = fT (fT (fT vi 5 (nI (cc + 1))) 6 0) 7 0 := Eq.trans (mv_1 rfl) (Eq.trans (congrArg (fT _ 6) (show nI (2 * 0) = 0 from (by first | with_reducible rfl | with_reducible assumption | (symm; with_reducible assumption) | rfl | assumption | (symm; assumption) | (subst_vars; rfl)))) (mv_1 rfl))
        have hP := wr_Pi e9 hP
        have hD := wr_Di e9 hD
        clear e9
        have e9 : fT (fT (fT (fT (fT (fT (fT vF 74 f74x) 0 g94) 4 f456) 6 f656) 2 f2S) 3 f3S) 5 (vF 5) = fT (fT (fT (fT (fT (fT vF 74 f74x) 0 g94) 4 f456) 6 f656) 2 f2S) 3 f3S := id_6 rfl
        have hP := wr_PF e9 hP
        have hD := wr_DF e9 hD
        clear e9
        have hl : lv_has _ _ ([(0, .ref h0), (2, .int (nI 0))]) := lv_sub hl [1, 0] rfl
        refine (fun (loop : ∀ (n9 : Nat) (k5 : Nat) (g1 : Nat → Int32) (f21 : Nat → Int32) (f31 : Nat → Int32) (f51 : Nat → Int32) (gs1 : Nat → Int64) (m1 : Nat → Int) (H : Heap) (locs : List Loc) (ls : Array Slot), (Bg g1 m1) → (k5 ≤ vn) → (BldP (cc + 1) (2 * k5) m1 f51 (bcl (ncS (ncw (vF 61) (vF 71) (vF 72) (vF 73)) z)) Bs) → (m1 1045 = mS 19) → (m1 20 = 1) → (∀ q, 1000 ≤ q → q ≠ 1045 → m1 q = mg q) →  (vn < k5 + n9) → va_P (dC, dI) vwCl (WR a k h0 (fT (fT (fT vi 5 (nI (cc + 1))) 6 (nI (2 * k5))) 7 0) vj (fT (fT (fT (fT (fT (fT (fT vF 74 f74x) 0 g1) 4 f456) 6 f656) 2 f21) 3 f31) 5 f51) (fT vG 1 gs1)) H → va_D A (WR a k h0 (fT (fT (fT vi 5 (nI (cc + 1))) 6 (nI (2 * k5))) 7 0) vj (fT (fT (fT (fT (fT (fT (fT vF 74 f74x) 0 g1) 4 f456) 6 f656) 2 f21) 3 f31) 5 f51) (fT vG 1 gs1)) → va_S A s.heap H locs → lv_has ls 6 [(0, .ref h0), (2, .int (nI k5))] → W p l e _ s m _ below meth c H locs 0 0 _ (F0 m 99 ls [])) => loop (vn + 1) 0 g94 f2S f3S (vF 5) gsS (fT mS 1045 (mS 19)) _ _ _ (f94_0) (by omega) (fun i hi => absurd hi (by omega)) ((by rw [fT_eq])) (by (rw [fT_ne _ _ (by omega)]); exact h20S) (fun q h1 h2 => by (rw [fT_ne _ _ (by omega)]); exact hoS q h1) (by omega) hP hD hS hl) ?_
        intro n9
        induction n9 with
        | zero => intro k5 g1 f21 f31 f51 gs1 m1 H locs ls hB1 hk5 hBl1 h451 h201 ho1 hf9; exact False.elim (by omega)
        | succ n9 ih99_1 =>
          intro k5 g1 f21 f31 f51 gs1 m1 H locs ls hB1 hk5 hBl1 h451 h201 ho1 hf99_1 hP hD hS hl
          refine lv_iload_n hx hb dX12_addsUp_99 rfl (lv_at hl 1 rfl) ?_
          refine lv_aload_n hx hb dX12_addsUp_100 rfl (lv_at hl 0 rfl) ?_
          refine va_get (D := (dC, dI)) (ci := 12) (v := .int (vi 90)) (C := RX12) (T := TX12) (N := 163) (fs := fM (vS a (fT (fT (fT vi 5 (nI (cc + 1))) 6 (nI (2 * k5))) 7 0) vj)) hx hb hts iwsRX12_addsUp_in12 hown hK hP 0 rfl rfl 90 (by decide) (hts (.fieldLink RX12 774 "OptimaWorksModel" "variables" "I") (by decide +kernel)) (fun _ h9 => h9) rfl dX12_addsUp_101 ?_
          refine lv_topi (fun y3 hy3 => ?_)
          obtain rfl : (nI vn) = y3 := (hy3.trans (hvn)).symm
          refine lv_icmp_ge (tgt := 267) hx hb dX12_addsUp_104 (by decide) (fun c_104 => ?_) (fun c_104 => ?_)
          · have t_104 : ((k5 : Nat) : Int) ≥ ((vn : Nat) : Int) := toI_ge c_104 (nI_toInt (by omega)) (nI_toInt (by omega))
            refine W.cut (pc := 385) (fun H locs ls stk => ∃ (Rf : Nat) (gF : Nat → Int32) (f5F : Nat → Int32) (mF : Nat → Int), (Bg gF mF) ∧ ((Rf ≤ 16 ∧ Bs = 2 ^ 74) ∨ (Rf ≤ 18 ∧ Bs = 1)) ∧ (BldP (cc + 1) Rf mF f5F (bcl (ncS (ncw (vF 61) (vF 71) (vF 72) (vF 73)) z)) Bs) ∧ (mF 1045 = mS 19) ∧ (mF 20 = 1) ∧ (∀ q, 1000 ≤ q → q ≠ 1045 → mF q = mg q) ∧  stk = [] ∧ va_P (dC, dI) vwCl (WR a k h0 (fT (fT (fT vi 5 (nI (cc + 1))) 6 (nI Rf)) 7 0) vj (fT (fT (fT (fT (fT (fT (fT vF 74 f74x) 0 gF) 4 f456) 6 f656) 2 f21) 3 f31) 5 f5F) (fT vG 1 gs1)) H ∧ va_D A (WR a k h0 (fT (fT (fT vi 5 (nI (cc + 1))) 6 (nI Rf)) 7 0) vj (fT (fT (fT (fT (fT (fT (fT vF 74 f74x) 0 gF) 4 f456) 6 f656) 2 f21) 3 f31) 5 f5F) (fT vG 1 gs1)) ∧ va_S A s.heap H locs ∧ lv_has ls 6 [(0, .ref h0)]) (fun join2 => ?_) ?_
            · have ek5 : k5 = vn := by omega
              have e10 : nI (2 * vn + 0) = nI (2 * k5) := by rw [ek5]; rfl
              have hBlv : BldP (cc + 1) (2 * vn + 0) m1 f51 (bcl (ncS (ncw (vF 61) (vF 71) (vF 72) (vF 73)) z)) Bs := by (have h9 := hBl1); rw [ek5] at h9; exact h9
              refine lv_iconst (v := 1) hx hb dX12_addsUp_267 (by decide) ?_
              refine lv_istore_n hx hb dX12_addsUp_268 rfl hl (by decide) rfl (fun ls (hl : lv_has ls _ ([(2, .int 1), (0, .ref h0)])) => ?_)
              have e9 : fT (fT (fT vi 5 (nI (cc + 1))) 6 (nI (2 * vn + 0))) 7 0 = fT (fT (fT vi 5 (nI (cc + 1))) 6 (nI (2 * k5))) 7 0 := Eq.trans (mv_1 rfl) (Eq.trans (congrArg (fT _ 6) (show nI (2 * vn + 0) = nI (2 * k5) from (by first | with_reducible rfl | with_reducible assumption | (symm; with_reducible assumption) | rfl | assumption | (symm; assumption) | (subst_vars; rfl)))) (mv_1 rfl))
              have hP := wr_Pi e9 hP
              have hD := wr_Di e9 hD
              clear e9
              have hl : lv_has _ _ ([(0, .ref h0), (2, .int 1)]) := lv_sub hl [1, 0] rfl
              refine (fun (loop : ∀ (n9 : Nat) (hw2 : Int32) (hq2 : Nat) (g5 : Nat → Int32) (f55 : Nat → Int32) (m5 : Nat → Int) (H : Heap) (locs : List Loc) (ls : Array Slot), (Bg g5 m5) → ((hq2 = 0 ∧ hw2 = 1) ∨ (hq2 = 1 ∧ hw2 = -1) ∨ (hq2 = 2 ∧ hw2 = -3)) → (hq2 = 0 ∨ vi 118 ≠ 0) → (BldP (cc + 1) (2 * vn + hq2) m5 f55 (bcl (ncS (ncw (vF 61) (vF 71) (vF 72) (vF 73)) z)) Bs) → (m5 1045 = mS 19) → (m5 20 = 1) → (∀ q, 1000 ≤ q → q ≠ 1045 → m5 q = mg q) →  (3 < hq2 + n9) → va_P (dC, dI) vwCl (WR a k h0 (fT (fT (fT vi 5 (nI (cc + 1))) 6 (nI (2 * vn + hq2))) 7 0) vj (fT (fT (fT (fT (fT (fT (fT vF 74 f74x) 0 g5) 4 f456) 6 f656) 2 f21) 3 f31) 5 f55) (fT vG 1 gs1)) H → va_D A (WR a k h0 (fT (fT (fT vi 5 (nI (cc + 1))) 6 (nI (2 * vn + hq2))) 7 0) vj (fT (fT (fT (fT (fT (fT (fT vF 74 f74x) 0 g5) 4 f456) 6 f656) 2 f21) 3 f31) 5 f55) (fT vG 1 gs1)) → va_S A s.heap H locs → lv_has ls 6 [(0, .ref h0), (2, .int hw2)] → W p l e _ s m _ below meth c H locs 0 0 _ (F0 m 269 ls [])) => loop (4) 1 0 g1 f51 m1 _ _ _ (hB1) (Or.inl ⟨rfl, rfl⟩) (Or.inl rfl) (hBlv) (h451) (h201) (ho1) (by omega) hP hD hS hl) ?_
              intro n9
              induction n9 with
              | zero => intro hw2 hq2 g5 f55 m5 H locs ls hB5 hh2 hsh hBl5 h455 h205 ho5 hf9; exact False.elim (by omega)
              | succ n9 ih269_2 =>
                intro hw2 hq2 g5 f55 m5 H locs ls hB5 hh2 hsh hBl5 h455 h205 ho5 hf269_2 hP hD hS hl
                refine lv_iload_n hx hb dX12_addsUp_269 rfl (lv_at hl 1 rfl) ?_
                refine lv_iconst (v := (-1)) hx hb dX12_addsUp_270 (by decide) ?_
                refine lv_icmp_lt (tgt := 385) hx hb dX12_addsUp_271 (by decide) (fun c_271 => ?_) (fun c_271 => ?_)
                · have t_271 : (hw2).toInt < -1 := toI_lt c_271 rfl (by decide)
                  have hl : lv_has _ _ ([(0, .ref h0)]) := lv_sub hl [0] rfl
                  exact join2 _ _ _ _ ⟨(2 * vn + hq2), g5, f55, m5, hB5, by (have hq9 : hq2 = 2 := by rcases hh2 with ⟨h1, h2⟩ | ⟨h1, h2⟩ | ⟨h1, h2⟩; (exfalso; rw [h2] at t_271; exact absurd t_271 (by decide)); (exfalso; rw [h2] at t_271; exact absurd t_271 (by decide)); (exact h1)); exact Or.inr ⟨by omega, by rw [hBs, if_neg (hsh.resolve_left (by omega))]⟩, hBl5, h455, h205, ho5, rfl, hP, hD, hS, hl⟩
                · have t_271 : ¬ (hw2).toInt < -1 := toI_nlt c_271 rfl (by decide)
                  refine lv_aload_n hx hb dX12_addsUp_274 rfl (lv_at hl 0 rfl) ?_
                  refine va_get (D := (dC, dI)) (ci := 12) (v := .int (vi 118)) (C := RX12) (T := TX12) (N := 163) (fs := fM (vS a (fT (fT (fT vi 5 (nI (cc + 1))) 6 (nI (2 * vn + hq2))) 7 0) vj)) hx hb hts iwsRX12_addsUp_in12 hown hK hP 0 rfl rfl 118 (by decide) (hts _ hm_r_X12_addsUp_1) (fun _ h9 => h9) rfl dX12_addsUp_275 ?_
                  refine lv_if_eq (tgt := 385) hx hb dX12_addsUp_278 (by decide) (fun c_278 => ?_) (fun c_278 => ?_)
                  · have t_278 : ((vi 118)).toInt = 0 := toI_eq c_278 rfl (by decide)
                    have hl : lv_has _ _ ([(0, .ref h0)]) := lv_sub hl [0] rfl
                    exact join2 _ _ _ _ ⟨(2 * vn + hq2), g5, f55, m5, hB5, Or.inl ⟨by (have h9 := hsh.resolve_right (fun h => h c_278)); omega, by rw [hBs, if_pos c_278]⟩, hBl5, h455, h205, ho5, rfl, hP, hD, hS, hl⟩
                  · have t_278 : ¬ ((vi 118)).toInt = 0 := toI_neq c_278 rfl (by decide)
                    obtain ⟨hI, hhI, hI1, hq1⟩ : ∃ hI : Int, (hw2).toInt = hI ∧ (hI = 1 ∨ hI = -1) ∧ hq2 < 2 := by rcases hh2 with ⟨h1, h2⟩ | ⟨h1, h2⟩ | ⟨h1, h2⟩; (exact ⟨1, by rw [h2]; decide, Or.inl rfl, by omega⟩); (exact ⟨-1, by rw [h2]; decide, Or.inr rfl, by omega⟩); (exfalso; rw [h2] at t_271; exact absurd t_271 (by decide))
                    have hmul := hex (2 * vn + hq2) (by omega)
                    have hmul2 : (2 * vn + hq2 + 1) * (cc + 1 + 1) ≤ 18 * 42 := Nat.mul_le_mul (by omega) (by omega)
                    rw [Nat.succ_mul] at hmul2
                    refine lv_aload_n hx hb dX12_addsUp_281 rfl (lv_at hl 0 rfl) ?_
                    have hFc := allFree hD hS hA
                    refine va_calli (va_runV (As := []) (rest := []) ⟨hx, hb, hml, hown, hts⟩ (r_X12_newLine l dC dI a k h0 (fT (fT (fT vi 5 (nI (cc + 1))) 6 (nI (2 * vn + hq2))) 7 0) vj (fT (fT (fT (fT (fT (fT (fT vF 74 f74x) 0 g5) 4 f456) 6 f656) 2 f21) 3 f31) 5 f55) (fT vG 1 gs1) (cc + 1) (2 * vn + hq2) m5 hB5 (by first | with_reducible assumption | decide | omega | rfl | assumption) (by first | with_reducible assumption | decide | omega | rfl | assumption) (by first | with_reducible assumption | decide | omega | rfl | assumption) (by first | with_reducible assumption | decide | omega | rfl | assumption) (by first | with_reducible assumption | decide | omega | rfl | assumption) (by first | with_reducible assumption | decide | omega | rfl | assumption) H.size) (cwV 0 hts gwsRX12_addsUp_4 rfl rfl rfl hd_yX12_newLine_RX12 (by decide +kernel)) (fz_pre (va_recv hK hP (ci := 12) (q0 := 0) rfl rfl) hP hK hD) rfl rfl hl.1 rfl (lv_room (Nat.le_of_ble_eq_true rfl)) dX12_addsUp_282 (by decide +kernel)) hS (fun q _ h => hFc q h) hFc (fun r282 u t9_ H locs ht hvm hw9 hB9 hz1 hk1 hS => ?_)
                    revert u hw9 hB9
                    refine fz_p2 ?_
                    intro g282 m2282 hw9 hB9
                    try dsimp only at hw9 hB9
                    have e9i : fT (fT (fT vi 5 (nI (cc + 1))) 6 (nI ((2 * vn + hq2) + 1))) 7 0 = fT (fT (fT (fT vi 5 (nI (cc + 1))) 6 (nI (2 * vn + hq2))) 7 0) 6 (nI ((2 * vn + hq2) + 1)) := ((fT_sw _ _ _ (Nat.ne_of_beq_eq_false rfl)).trans (congrArg (fun g9 => fT g9 7 0) (fT_sm _ _ _ _))).symm
                    have e9F : fT (fT (fT (fT (fT (fT (fT vF 74 f74x) 0 g282) 4 f456) 6 f656) 2 f21) 3 f31) 5 (upd f55 (nI (2 * vn + hq2)).toNatClampNeg (nI ((cc + 1) + (2 * vn + hq2)))) = fT (fT (fT (fT (fT (fT (fT (fT (fT vF 74 f74x) 0 g5) 4 f456) 6 f656) 2 f21) 3 f31) 5 f55) 0 g282) 5 (upd f55 (nI (2 * vn + hq2)).toNatClampNeg (nI ((cc + 1) + (2 * vn + hq2)))) := Eq.symm (Eq.trans (congrArg (fun g9 => fT g9 5 (upd f55 (nI (2 * vn + hq2)).toNatClampNeg (nI ((cc + 1) + (2 * vn + hq2))))) (up_5 rfl)) (up_0 rfl))
                    have hP := wr_PF e9F (wr_Pi e9i (fz_P ht hB9.1))
                    have hD := wr_DF e9F (wr_Di e9i (hB9.2.weaken (fun _ q _ h => hFc q.1 h)))
                    clear e9i e9F
                    obtain ⟨rfl, f282_0, f282_1, f282_2⟩ := hw9
                    refine lv_istore_n hx hb dX12_addsUp_285 rfl hl (by decide) rfl (fun ls (hl : lv_has ls _ ([(3, .int (nI (2 * vn + hq2))), (0, .ref h0), (2, .int hw2)])) => ?_)
                    refine lv_iconst (v := 0) hx hb dX12_addsUp_286 (by decide) ?_
                    refine lv_istore hx hb dX12_addsUp_287 hl (by decide) rfl (fun ls (hl : lv_has ls _ ([(4, .int 0), (3, .int (nI (2 * vn + hq2))), (0, .ref h0), (2, .int hw2)])) => ?_)
                    have hl : lv_has _ _ ([(0, .ref h0), (2, .int hw2), (3, .int (nI (2 * vn + hq2))), (4, .int (nI 0))]) := lv_sub hl [2, 3, 1, 0] rfl
                    refine (fun (loop : ∀ (n9 : Nat) (i7 : Nat) (g6 : Nat → Int32) (m6a : Nat → Int) (H : Heap) (locs : List Loc) (ls : Array Slot), (Bg g6 m6a) → (i7 ≤ nd) → (RwB (cc + 1) m6a (2 * vn + hq2) (bcl (ncS (ncw (vF 61) (vF 71) (vF 72) (vF 73)) z))) → (∀ q, (q < 30 + (2 * vn + hq2) * (cc + 1 + 1) ∨ 30 + (2 * vn + hq2) * (cc + 1 + 1) + (cc + 1 - 1) ≤ q) → m6a q = m2282 q) →  (nd < i7 + n9) → va_P (dC, dI) vwCl (WR a k h0 (fT (fT (fT vi 5 (nI (cc + 1))) 6 (nI ((2 * vn + hq2) + 1))) 7 0) vj (fT (fT (fT (fT (fT (fT (fT vF 74 f74x) 0 g6) 4 f456) 6 f656) 2 f21) 3 f31) 5 (upd f55 (nI (2 * vn + hq2)).toNatClampNeg (nI ((cc + 1) + (2 * vn + hq2))))) (fT vG 1 gs1)) H → va_D A (WR a k h0 (fT (fT (fT vi 5 (nI (cc + 1))) 6 (nI ((2 * vn + hq2) + 1))) 7 0) vj (fT (fT (fT (fT (fT (fT (fT vF 74 f74x) 0 g6) 4 f456) 6 f656) 2 f21) 3 f31) 5 (upd f55 (nI (2 * vn + hq2)).toNatClampNeg (nI ((cc + 1) + (2 * vn + hq2))))) (fT vG 1 gs1)) → va_S A s.heap H locs → lv_has ls 6 [(0, .ref h0), (2, .int hw2), (3, .int (nI (2 * vn + hq2))), (4, .int (nI i7))] → W p l e _ s m _ below meth c H locs 0 0 _ (F0 m 289 ls [])) => loop (nd + 1) 0 g282 m2282 _ _ _ (f282_0) (by omega) (fun j hj => by rw [f282_1 j (by omega), if_neg (by omega)]; exact Nat.zero_le _) (fun q _ => rfl) (by omega) hP hD hS hl) ?_
                    intro n9
                    induction n9 with
                    | zero => intro i7 g6 m6a H locs ls hB6 hi7 hrw hfr hf9; exact False.elim (by omega)
                    | succ n9 ih289_3 =>
                      intro i7 g6 m6a H locs ls hB6 hi7 hrw hfr hf289_3 hP hD hS hl
                      refine lv_iload hx hb dX12_addsUp_289 (lv_at hl 3 rfl) ?_
                      refine lv_aload_n hx hb dX12_addsUp_291 rfl (lv_at hl 0 rfl) ?_
                      refine va_get (D := (dC, dI)) (ci := 12) (v := .int (vi 119)) (C := RX12) (T := TX12) (N := 163) (fs := fM (vS a (fT (fT (fT vi 5 (nI (cc + 1))) 6 (nI ((2 * vn + hq2) + 1))) 7 0) vj)) hx hb hts iwsRX12_addsUp_in12 hown hK hP 0 rfl rfl 119 (by decide) (hts _ hm_r_X12_addsUp_0) (fun _ h9 => h9) rfl dX12_addsUp_292 ?_
                      refine lv_topi (fun y4 hy4 => ?_)
                      obtain rfl : (nI nd) = y4 := (hy4.trans (hnd)).symm
                      refine lv_icmp_ge (tgt := 364) hx hb dX12_addsUp_295 (by decide) (fun c_295 => ?_) (fun c_295 => ?_)
                      · have t_295 : ((i7 : Nat) : Int) ≥ ((nd : Nat) : Int) := toI_ge c_295 (nI_toInt (by omega)) (nI_toInt (by omega))
                        refine lv_aload_n hx hb dX12_addsUp_364 rfl (lv_at hl 0 rfl) ?_
                        refine lv_aload_n hx hb dX12_addsUp_365 rfl (lv_at hl 0 rfl) ?_
                        refine lv_iload_n hx hb dX12_addsUp_366 rfl (lv_at hl 2 rfl) ?_
                        refine lv_aload_n hx hb dX12_addsUp_367 rfl (lv_at hl 0 rfl) ?_
                        refine va_get (D := (dC, dI)) (ci := 12) (v := .int (nI (cc + 1))) (C := RX12) (T := TX12) (N := 163) (fs := fM (vS a (fT (fT (fT vi 5 (nI (cc + 1))) 6 (nI ((2 * vn + hq2) + 1))) 7 0) vj)) hx hb hts iwsRX12_addsUp_in12 hown hK hP 0 rfl rfl 5 (by decide) (hts _ hm_r_X12_addsUp_3) (fun _ h9 => h9) rfl dX12_addsUp_368 ?_
                        have hFc := allFree hD hS hA
                        refine va_calli (va_runV (As := [.int (nI (2 * vn + hq2)), .int (nI (cc + 1))]) (rest := [.ref h0]) ⟨hx, hb, hml, hown, hts⟩ (r_X12_at l dC dI a k h0 (fT (fT (fT vi 5 (nI (cc + 1))) 6 (nI ((2 * vn + hq2) + 1))) 7 0) vj (fT (fT (fT (fT (fT (fT (fT vF 74 f74x) 0 g6) 4 f456) 6 f656) 2 f21) 3 f31) 5 (upd f55 (nI (2 * vn + hq2)).toNatClampNeg (nI ((cc + 1) + (2 * vn + hq2))))) (fT vG 1 gs1) (2 * vn + hq2) (cc + 1) (cc + 1) (by first | with_reducible assumption | decide | omega | rfl | assumption) H.size) (cwV 2 hts gwsRX12_addsUp_5 rfl rfl rfl hd_yX12_at_RX12 (by decide +kernel)) (fz_pre (va_recv hK hP (ci := 12) (q0 := 0) rfl rfl) hP hK hD) rfl rfl hl.1 rfl (lv_room (Nat.le_of_ble_eq_true rfl)) dX12_addsUp_371 (by decide +kernel)) hS (fun q _ h => hFc q h) hFc (fun r371 u t9_ H locs ht hvm hw9 hB9 hz1 hk1 hS => ?_)
                        have hP : va_P (dC, dI) vwCl (WR a k h0 (fT (fT (fT vi 5 (nI (cc + 1))) 6 (nI ((2 * vn + hq2) + 1))) 7 0) vj (fT (fT (fT (fT (fT (fT (fT vF 74 f74x) 0 g6) 4 f456) 6 f656) 2 f21) 3 f31) 5 (upd f55 (nI (2 * vn + hq2)).toNatClampNeg (nI ((cc + 1) + (2 * vn + hq2))))) (fT vG 1 gs1)) H := fz_P ht hB9.1
                        have hD := fz_sd hP (hB9.2.weaken (fun _ q _ h => hFc q.1 h)) rfl
                        obtain rfl := hw9
                        refine lv_iload_n hx hb dX12_addsUp_374 rfl (lv_at hl 1 rfl) ?_
                        refine lv_i2l hx hb dX12_addsUp_375 rfl ?_
                        have hFc := allFree hD hS hA
                        refine va_callv (va_runV (As := [.int (nI (30 + (2 * vn + hq2) * ((cc + 1) + 1) + (cc + 1))), .long (hw2).toInt64]) (rest := []) ⟨hx, hb, hml, hown, hts⟩ (b_X12_put l dC dI a k h0 (fT (fT (fT vi 5 (nI (cc + 1))) 6 (nI ((2 * vn + hq2) + 1))) 7 0) vj (fT (fT (fT (fT (fT (fT (fT vF 74 f74x) 0 g6) 4 f456) 6 f656) 2 f21) 3 f31) 5 (upd f55 (nI (2 * vn + hq2)).toNatClampNeg (nI ((cc + 1) + (2 * vn + hq2))))) (fT vG 1 gs1) (30 + (2 * vn + hq2) * ((cc + 1) + 1) + (cc + 1)) ((hw2).toInt64) hI m6a hB6 (by first | with_reducible assumption | decide | omega | rfl | assumption) ((i64T _).trans hhI) (by omega) H.size) (cwV 2 hts gwsRX12_addsUp_1 rfl rfl rfl hd_yX12_put_RX12 (by decide +kernel)) (fz_pre (va_recv hK hP (ci := 12) (q0 := 0) rfl rfl) hP hK hD) rfl rfl hl.1 rfl (lv_room (Nat.le_of_ble_eq_true rfl)) dX12_addsUp_376 (by decide +kernel)) hS (fun q _ h => hFc q h) hFc (fun g376 t9_ H locs ht hvm hw9 hB9 hz1 hk1 hS => ?_)
                        have e9F : fT (fT (fT (fT (fT (fT (fT vF 74 f74x) 0 g376) 4 f456) 6 f656) 2 f21) 3 f31) 5 (upd f55 (nI (2 * vn + hq2)).toNatClampNeg (nI ((cc + 1) + (2 * vn + hq2)))) = fT (fT (fT (fT (fT (fT (fT (fT vF 74 f74x) 0 g6) 4 f456) 6 f656) 2 f21) 3 f31) 5 (upd f55 (nI (2 * vn + hq2)).toNatClampNeg (nI ((cc + 1) + (2 * vn + hq2))))) 0 g376 := Eq.symm (up_5 rfl)
                        have hP := wr_PF e9F (fz_P ht hB9.1)
                        have hD := wr_DF e9F (hB9.2.weaken (fun _ q _ h => hFc q.1 h))
                        clear e9F
                        have f376_0 := hw9
                        try dsimp only at f376_0
                        have hBl9 : BldP (cc + 1) (2 * vn + hq2 + 1) (fT m6a (30 + (2 * vn + hq2) * ((cc + 1) + 1) + (cc + 1)) hI) (upd f55 (nI (2 * vn + hq2)).toNatClampNeg (nI (cc + 1 + (2 * vn + hq2)))) (bcl (ncS (ncw (vF 61) (vF 71) (vF 72) (vF 73)) z)) Bs := hBl5.more (fun i2 hi2 => by rw [upd_at (by omega), if_neg (by omega)]) (fun p h1 h2 => by (rw [fT_ne _ _ (by omega)]); rw [hfr _ (by omega), f282_2 _ (by omega)]) (by omega) (by rw [upd_at (by omega), if_pos rfl]) (fun j hj => by (rw [fT_ne _ _ (by omega)]); exact hrw j hj) (by (rw [fT_ne _ _ (by omega)]); rw [hfr _ (by omega), f282_1 (cc + 1 - 1) (by omega), if_pos rfl]) (by rw [fT_eq]; rcases hI1 with h | h <;> rw [h] <;> exact hBs1)
                        have h459 : (fT m6a (30 + (2 * vn + hq2) * ((cc + 1) + 1) + (cc + 1)) hI) 1045 = mS 19 := by (rw [fT_ne _ _ (by omega)]); rw [hfr _ (by omega), f282_2 _ (by omega)]; exact h455
                        have h209 : (fT m6a (30 + (2 * vn + hq2) * ((cc + 1) + 1) + (cc + 1)) hI) 20 = 1 := by (rw [fT_ne _ _ (by omega)]); rw [hfr _ (by omega), f282_2 _ (by omega)]; exact h205
                        have ho9 : ∀ q, 1000 ≤ q → q ≠ 1045 → (fT m6a (30 + (2 * vn + hq2) * ((cc + 1) + 1) + (cc + 1)) hI) q = mg q := fun q h1 h2 => by (rw [fT_ne _ _ (by omega)]); rw [hfr _ (by omega), f282_2 _ (by omega)]; exact ho5 q h1 h2
                        refine lv_iinc (v := (hw2 + (-2))) hx hb dX12_addsUp_379 hl (k := 1) rfl rfl (by decide) rfl (fun ls (hl : lv_has ls _ ([(2, .int (hw2 + (-2))), (0, .ref h0), (3, .int (nI (2 * vn + hq2))), (4, .int (nI i7))])) => ?_)
                        refine lv_goto (tgt := 269) hx hb dX12_addsUp_382 (by decide) ?_
                        have e9 : fT (fT (fT vi 5 (nI (cc + 1))) 6 (nI (2 * vn + (hq2 + 1)))) 7 0 = fT (fT (fT vi 5 (nI (cc + 1))) 6 (nI ((2 * vn + hq2) + 1))) 7 0 := Eq.trans (mv_1 rfl) (Eq.trans (congrArg (fT _ 6) (show nI (2 * vn + (hq2 + 1)) = nI ((2 * vn + hq2) + 1) from (by first | with_reducible rfl | with_reducible assumption | (symm; with_reducible assumption) | rfl | assumption | (symm; assumption) | (subst_vars; rfl)))) (mv_1 rfl))
                        have hP := wr_Pi e9 hP
                        have hD := wr_Di e9 hD
                        clear e9
                        have hl : lv_has _ _ ([(0, .ref h0), (2, .int (hw2 + (-2)))]) := lv_sub hl [1, 0] rfl
                        exact ih269_2 (hw2 + (-2)) (hq2 + 1) g376 (upd f55 (nI (2 * vn + hq2)).toNatClampNeg (nI ((cc + 1) + (2 * vn + hq2)))) (fT m6a (30 + (2 * vn + hq2) * ((cc + 1) + 1) + (cc + 1)) hI) _ _ _ (f376_0) (by rcases hh2 with ⟨h1, h2⟩ | ⟨h1, h2⟩ | ⟨h1, h2⟩; (exact Or.inr (Or.inl ⟨by omega, by rw [h2]; decide⟩)); (exact Or.inr (Or.inr ⟨by omega, by rw [h2]; decide⟩)); (omega)) (Or.inr c_278) (hBl9) (h459) (h209) (ho9) (by omega) hP hD hS hl
                      · have t_295 : ¬ ((i7 : Nat) : Int) ≥ ((nd : Nat) : Int) := toI_nge c_295 (nI_toInt (by omega)) (nI_toInt (by omega))
                        refine lv_aload_n hx hb dX12_addsUp_298 rfl (lv_at hl 0 rfl) ?_
                        refine va_get (D := (dC, dI)) (ci := 12) (v := .ref (a 73)) (C := RX12) (T := TX12) (N := 163) (fs := fM (vS a (fT (fT (fT vi 5 (nI (cc + 1))) 6 (nI ((2 * vn + hq2) + 1))) 7 0) vj)) hx hb hts iwsRX12_addsUp_in12 hown hK hP 0 rfl rfl 122 (by decide) (hts _ hm_r_X12_addsUp_4) (fun _ h9 => h9) rfl dX12_addsUp_299 ?_
                        refine lv_iload hx hb dX12_addsUp_302 (lv_at hl 3 rfl) ?_
                        refine va_iald (cA := k 73) (n := 28) (f := (vF 73)) hx hb hK hP 74 73 (WR_get 73 (by decide)) (TR_get 73 (by decide)) (vp_in_nI (show i7 < 28 by omega) (by omega)) dX12_addsUp_304 ?_
                        refine lv_topi (fun y5 hy5 => ?_)
                        obtain rfl : ((vF 73) i7) = y5 := (hy5.trans (by rw [nI_clamp (by omega)])).symm
                        refine lv_if_ne (tgt := 311) hx hb dX12_addsUp_305 (by decide) (fun c_305 => ?_) (fun c_305 => ?_)
                        · have t_305 : (((vF 73) i7)).toInt ≠ 0 := toI_ne c_305 rfl (by decide)
                          have hn1 := hin i7 (by omega)
                          have hw1 : 1 ≤ (ncw (vF 61) (vF 71) (vF 72) (vF 73)) i7 := by unfold ncw; rw [if_neg c_305]; split <;> omega
                          have hI9 : hI.natAbs ≤ 1 := by rcases hI1 with h | h <;> rw [h] <;> decide
                          refine lv_aload_n hx hb dX12_addsUp_311 rfl (lv_at hl 0 rfl) ?_
                          refine lv_aload_n hx hb dX12_addsUp_312 rfl (lv_at hl 0 rfl) ?_
                          refine lv_iload_n hx hb dX12_addsUp_313 rfl (lv_at hl 2 rfl) ?_
                          refine lv_aload_n hx hb dX12_addsUp_314 rfl (lv_at hl 0 rfl) ?_
                          refine va_get (D := (dC, dI)) (ci := 12) (v := .ref (a 74)) (C := RX12) (T := TX12) (N := 163) (fs := fM (vS a (fT (fT (fT vi 5 (nI (cc + 1))) 6 (nI ((2 * vn + hq2) + 1))) 7 0) vj)) hx hb hts iwsRX12_addsUp_in12 hown hK hP 0 rfl rfl 123 (by decide) (hts _ hm_r_X12_addsUp_5) (fun _ h9 => h9) rfl dX12_addsUp_315 ?_
                          refine lv_iload hx hb dX12_addsUp_318 (lv_at hl 3 rfl) ?_
                          refine va_iald (cA := k 74) (n := 28) (f := f74x) hx hb hK hP 75 74 (WR_get 74 (by decide)) (TR_get 74 (by decide)) (vp_in_nI (show i7 < 28 by omega) (by omega)) dX12_addsUp_320 ?_
                          refine lv_topi (fun y6 hy6 => ?_)
                          obtain rfl : (f74x i7) = y6 := (hy6.trans (by rw [nI_clamp (by omega)])).symm
                          refine lv_topi (fun y7 hy7 => ?_)
                          obtain rfl : (nI (ncS (ncw (vF 61) (vF 71) (vF 72) (vF 73)) i7)) = y7 := (hy7.trans (h74 _ (by omega))).symm
                          have hFc := allFree hD hS hA
                          refine va_calli (va_runV (As := [.int (nI (2 * vn + hq2)), .int (nI (ncS (ncw (vF 61) (vF 71) (vF 72) (vF 73)) i7))]) (rest := [.ref h0]) ⟨hx, hb, hml, hown, hts⟩ (r_X12_at l dC dI a k h0 (fT (fT (fT vi 5 (nI (cc + 1))) 6 (nI ((2 * vn + hq2) + 1))) 7 0) vj (fT (fT (fT (fT (fT (fT (fT vF 74 f74x) 0 g6) 4 f456) 6 f656) 2 f21) 3 f31) 5 (upd f55 (nI (2 * vn + hq2)).toNatClampNeg (nI ((cc + 1) + (2 * vn + hq2))))) (fT vG 1 gs1) (2 * vn + hq2) (ncS (ncw (vF 61) (vF 71) (vF 72) (vF 73)) i7) (cc + 1) (by first | with_reducible assumption | decide | omega | rfl | assumption) H.size) (cwV 2 hts gwsRX12_addsUp_5 rfl rfl rfl hd_yX12_at_RX12 (by decide +kernel)) (fz_pre (va_recv hK hP (ci := 12) (q0 := 0) rfl rfl) hP hK hD) rfl rfl hl.1 rfl (lv_room (Nat.le_of_ble_eq_true rfl)) dX12_addsUp_321 (by decide +kernel)) hS (fun q _ h => hFc q h) hFc (fun r321 u t9_ H locs ht hvm hw9 hB9 hz1 hk1 hS => ?_)
                          have hP : va_P (dC, dI) vwCl (WR a k h0 (fT (fT (fT vi 5 (nI (cc + 1))) 6 (nI ((2 * vn + hq2) + 1))) 7 0) vj (fT (fT (fT (fT (fT (fT (fT vF 74 f74x) 0 g6) 4 f456) 6 f656) 2 f21) 3 f31) 5 (upd f55 (nI (2 * vn + hq2)).toNatClampNeg (nI ((cc + 1) + (2 * vn + hq2))))) (fT vG 1 gs1)) H := fz_P ht hB9.1
                          have hD := fz_sd hP (hB9.2.weaken (fun _ q _ h => hFc q.1 h)) rfl
                          obtain rfl := hw9
                          refine lv_iload_n hx hb dX12_addsUp_324 rfl (lv_at hl 1 rfl) ?_
                          refine lv_i2l hx hb dX12_addsUp_325 rfl ?_
                          have hFc := allFree hD hS hA
                          refine va_callv (va_runV (As := [.int (nI (30 + (2 * vn + hq2) * ((cc + 1) + 1) + (ncS (ncw (vF 61) (vF 71) (vF 72) (vF 73)) i7))), .long (hw2).toInt64]) (rest := []) ⟨hx, hb, hml, hown, hts⟩ (b_X12_put l dC dI a k h0 (fT (fT (fT vi 5 (nI (cc + 1))) 6 (nI ((2 * vn + hq2) + 1))) 7 0) vj (fT (fT (fT (fT (fT (fT (fT vF 74 f74x) 0 g6) 4 f456) 6 f656) 2 f21) 3 f31) 5 (upd f55 (nI (2 * vn + hq2)).toNatClampNeg (nI ((cc + 1) + (2 * vn + hq2))))) (fT vG 1 gs1) (30 + (2 * vn + hq2) * ((cc + 1) + 1) + (ncS (ncw (vF 61) (vF 71) (vF 72) (vF 73)) i7)) ((hw2).toInt64) hI m6a hB6 (by first | with_reducible assumption | decide | omega | rfl | assumption) ((i64T _).trans hhI) (by omega) H.size) (cwV 2 hts gwsRX12_addsUp_1 rfl rfl rfl hd_yX12_put_RX12 (by decide +kernel)) (fz_pre (va_recv hK hP (ci := 12) (q0 := 0) rfl rfl) hP hK hD) rfl rfl hl.1 rfl (lv_room (Nat.le_of_ble_eq_true rfl)) dX12_addsUp_326 (by decide +kernel)) hS (fun q _ h => hFc q h) hFc (fun g326 t9_ H locs ht hvm hw9 hB9 hz1 hk1 hS => ?_)
                          have e9F : fT (fT (fT (fT (fT (fT (fT vF 74 f74x) 0 g326) 4 f456) 6 f656) 2 f21) 3 f31) 5 (upd f55 (nI (2 * vn + hq2)).toNatClampNeg (nI ((cc + 1) + (2 * vn + hq2)))) = fT (fT (fT (fT (fT (fT (fT (fT vF 74 f74x) 0 g6) 4 f456) 6 f656) 2 f21) 3 f31) 5 (upd f55 (nI (2 * vn + hq2)).toNatClampNeg (nI ((cc + 1) + (2 * vn + hq2))))) 0 g326 := Eq.symm (up_5 rfl)
                          have hP := wr_PF e9F (fz_P ht hB9.1)
                          have hD := wr_DF e9F (hB9.2.weaken (fun _ q _ h => hFc q.1 h))
                          clear e9F
                          have f326_0 := hw9
                          try dsimp only at f326_0
                          refine lv_aload_n hx hb dX12_addsUp_329 rfl (lv_at hl 0 rfl) ?_
                          refine lv_iload hx hb dX12_addsUp_330 (lv_at hl 3 rfl) ?_
                          have hFc := allFree hD hS hA
                          refine va_calli (va_runV (As := [.int (nI i7)]) (rest := []) ⟨hx, hb, hml, hown, hts⟩ (r_X12_isEqual l dC dI a k h0 (fT (fT (fT vi 5 (nI (cc + 1))) 6 (nI ((2 * vn + hq2) + 1))) 7 0) vj (fT (fT (fT (fT (fT (fT (fT vF 74 f74x) 0 g326) 4 f456) 6 f656) 2 f21) 3 f31) 5 (upd f55 (nI (2 * vn + hq2)).toNatClampNeg (nI ((cc + 1) + (2 * vn + hq2))))) (fT vG 1 gs1) i7 vn mr z nd (by first | with_reducible assumption | decide | omega | rfl | assumption) (by first | with_reducible assumption | decide | omega | rfl | assumption) (by first | with_reducible assumption | decide | omega | rfl | assumption) (by first | with_reducible assumption | decide | omega | rfl | assumption) H.size) (cwV 1 hts gwsRX12_addsUp_6 rfl rfl rfl hd_yX12_isEqual_RX12 (by decide +kernel)) (fz_pre (va_recv hK hP (ci := 12) (q0 := 0) rfl rfl) hP hK hD) rfl rfl hl.1 rfl (lv_room (Nat.le_of_ble_eq_true rfl)) dX12_addsUp_332 (by decide +kernel)) hS (fun q _ h => hFc q h) hFc (fun r332 u t9_ H locs ht hvm hw9 hB9 hz1 hk1 hS => ?_)
                          have hP : va_P (dC, dI) vwCl (WR a k h0 (fT (fT (fT vi 5 (nI (cc + 1))) 6 (nI ((2 * vn + hq2) + 1))) 7 0) vj (fT (fT (fT (fT (fT (fT (fT vF 74 f74x) 0 g326) 4 f456) 6 f656) 2 f21) 3 f31) 5 (upd f55 (nI (2 * vn + hq2)).toNatClampNeg (nI ((cc + 1) + (2 * vn + hq2))))) (fT vG 1 gs1)) H := fz_P ht hB9.1
                          have hD := fz_sd hP (hB9.2.weaken (fun _ q _ h => hFc q.1 h)) rfl
                          rcases hw9 with ⟨rfl, f332_0⟩ | ⟨rfl, f332_0⟩
                          · have f332_0 : EqP (vF 61) (vF 71) (vF 72) i7 := f332_0
                            refine lv_if_eq (tgt := 358) hx hb dX12_addsUp_335 (by decide) (fun c9 => absurd c9 (by decide)) (fun _ => ?_)
                            have hw2e : (ncw (vF 61) (vF 71) (vF 72) (vF 73)) i7 = 2 := by unfold ncw; rw [if_neg c_305, if_pos f332_0]
                            refine lv_aload_n hx hb dX12_addsUp_338 rfl (lv_at hl 0 rfl) ?_
                            refine lv_aload_n hx hb dX12_addsUp_339 rfl (lv_at hl 0 rfl) ?_
                            refine lv_iload_n hx hb dX12_addsUp_340 rfl (lv_at hl 2 rfl) ?_
                            refine lv_aload_n hx hb dX12_addsUp_341 rfl (lv_at hl 0 rfl) ?_
                            refine va_get (D := (dC, dI)) (ci := 12) (v := .ref (a 74)) (C := RX12) (T := TX12) (N := 163) (fs := fM (vS a (fT (fT (fT vi 5 (nI (cc + 1))) 6 (nI ((2 * vn + hq2) + 1))) 7 0) vj)) hx hb hts iwsRX12_addsUp_in12 hown hK hP 0 rfl rfl 123 (by decide) (hts _ hm_r_X12_addsUp_5) (fun _ h9 => h9) rfl dX12_addsUp_342 ?_
                            refine lv_iload hx hb dX12_addsUp_345 (lv_at hl 3 rfl) ?_
                            refine va_iald (cA := k 74) (n := 28) (f := f74x) hx hb hK hP 75 74 (WR_get 74 (by decide)) (TR_get 74 (by decide)) (vp_in_nI (show i7 < 28 by omega) (by omega)) dX12_addsUp_347 ?_
                            refine lv_topi (fun y8 hy8 => ?_)
                            obtain rfl : (f74x i7) = y8 := (hy8.trans (by rw [nI_clamp (by omega)])).symm
                            refine lv_topi (fun y9 hy9 => ?_)
                            obtain rfl : (nI (ncS (ncw (vF 61) (vF 71) (vF 72) (vF 73)) i7)) = y9 := (hy9.trans (h74 _ (by omega))).symm
                            refine lv_iconst (v := 1) hx hb dX12_addsUp_348 (by decide) ?_
                            refine lv_iadd hx hb dX12_addsUp_349 ?_
                            refine lv_topi (fun y10 hy10 => ?_)
                            obtain rfl : (nI ((ncS (ncw (vF 61) (vF 71) (vF 72) (vF 73)) i7) + 1)) = y10 := (hy10.trans (nI_add (ncS (ncw (vF 61) (vF 71) (vF 72) (vF 73)) i7) 1)).symm
                            have hFc := allFree hD hS hA
                            refine va_calli (va_runV (As := [.int (nI (2 * vn + hq2)), .int (nI ((ncS (ncw (vF 61) (vF 71) (vF 72) (vF 73)) i7) + 1))]) (rest := [.ref h0]) ⟨hx, hb, hml, hown, hts⟩ (r_X12_at l dC dI a k h0 (fT (fT (fT vi 5 (nI (cc + 1))) 6 (nI ((2 * vn + hq2) + 1))) 7 0) vj (fT (fT (fT (fT (fT (fT (fT vF 74 f74x) 0 g326) 4 f456) 6 f656) 2 f21) 3 f31) 5 (upd f55 (nI (2 * vn + hq2)).toNatClampNeg (nI ((cc + 1) + (2 * vn + hq2))))) (fT vG 1 gs1) (2 * vn + hq2) ((ncS (ncw (vF 61) (vF 71) (vF 72) (vF 73)) i7) + 1) (cc + 1) (by first | with_reducible assumption | decide | omega | rfl | assumption) H.size) (cwV 2 hts gwsRX12_addsUp_5 rfl rfl rfl hd_yX12_at_RX12 (by decide +kernel)) (fz_pre (va_recv hK hP (ci := 12) (q0 := 0) rfl rfl) hP hK hD) rfl rfl hl.1 rfl (lv_room (Nat.le_of_ble_eq_true rfl)) dX12_addsUp_350 (by decide +kernel)) hS (fun q _ h => hFc q h) hFc (fun r350 u t9_ H locs ht hvm hw9 hB9 hz1 hk1 hS => ?_)
                            have hP : va_P (dC, dI) vwCl (WR a k h0 (fT (fT (fT vi 5 (nI (cc + 1))) 6 (nI ((2 * vn + hq2) + 1))) 7 0) vj (fT (fT (fT (fT (fT (fT (fT vF 74 f74x) 0 g326) 4 f456) 6 f656) 2 f21) 3 f31) 5 (upd f55 (nI (2 * vn + hq2)).toNatClampNeg (nI ((cc + 1) + (2 * vn + hq2))))) (fT vG 1 gs1)) H := fz_P ht hB9.1
                            have hD := fz_sd hP (hB9.2.weaken (fun _ q _ h => hFc q.1 h)) rfl
                            obtain rfl := hw9
                            refine lv_iload_n hx hb dX12_addsUp_353 rfl (lv_at hl 1 rfl) ?_
                            refine lv_i2l hx hb dX12_addsUp_354 rfl ?_
                            have hFc := allFree hD hS hA
                            refine va_callv (va_runV (As := [.int (nI (30 + (2 * vn + hq2) * ((cc + 1) + 1) + ((ncS (ncw (vF 61) (vF 71) (vF 72) (vF 73)) i7) + 1))), .long (hw2).toInt64]) (rest := []) ⟨hx, hb, hml, hown, hts⟩ (b_X12_put l dC dI a k h0 (fT (fT (fT vi 5 (nI (cc + 1))) 6 (nI ((2 * vn + hq2) + 1))) 7 0) vj (fT (fT (fT (fT (fT (fT (fT vF 74 f74x) 0 g326) 4 f456) 6 f656) 2 f21) 3 f31) 5 (upd f55 (nI (2 * vn + hq2)).toNatClampNeg (nI ((cc + 1) + (2 * vn + hq2))))) (fT vG 1 gs1) (30 + (2 * vn + hq2) * ((cc + 1) + 1) + ((ncS (ncw (vF 61) (vF 71) (vF 72) (vF 73)) i7) + 1)) ((hw2).toInt64) hI (fT m6a (30 + (2 * vn + hq2) * ((cc + 1) + 1) + (ncS (ncw (vF 61) (vF 71) (vF 72) (vF 73)) i7)) hI) f326_0 (by first | with_reducible assumption | decide | omega | rfl | assumption) ((i64T _).trans hhI) (by omega) H.size) (cwV 2 hts gwsRX12_addsUp_1 rfl rfl rfl hd_yX12_put_RX12 (by decide +kernel)) (fz_pre (va_recv hK hP (ci := 12) (q0 := 0) rfl rfl) hP hK hD) rfl rfl hl.1 rfl (lv_room (Nat.le_of_ble_eq_true rfl)) dX12_addsUp_355 (by decide +kernel)) hS (fun q _ h => hFc q h) hFc (fun g355 t9_ H locs ht hvm hw9 hB9 hz1 hk1 hS => ?_)
                            have e9F : fT (fT (fT (fT (fT (fT (fT vF 74 f74x) 0 g355) 4 f456) 6 f656) 2 f21) 3 f31) 5 (upd f55 (nI (2 * vn + hq2)).toNatClampNeg (nI ((cc + 1) + (2 * vn + hq2)))) = fT (fT (fT (fT (fT (fT (fT (fT vF 74 f74x) 0 g326) 4 f456) 6 f656) 2 f21) 3 f31) 5 (upd f55 (nI (2 * vn + hq2)).toNatClampNeg (nI ((cc + 1) + (2 * vn + hq2))))) 0 g355 := Eq.symm (up_5 rfl)
                            have hP := wr_PF e9F (fz_P ht hB9.1)
                            have hD := wr_DF e9F (hB9.2.weaken (fun _ q _ h => hFc q.1 h))
                            clear e9F
                            have f355_0 := hw9
                            try dsimp only at f355_0
                            refine lv_iinc (v := (nI (i7 + 1))) hx hb dX12_addsUp_358 hl (k := 3) rfl (nI_add i7 1) (by decide) rfl (fun ls (hl : lv_has ls _ ([(4, .int (nI (i7 + 1))), (0, .ref h0), (2, .int hw2), (3, .int (nI (2 * vn + hq2)))])) => ?_)
                            refine lv_goto (tgt := 289) hx hb dX12_addsUp_361 (by decide) ?_
                            have hl : lv_has _ _ ([(0, .ref h0), (2, .int hw2), (3, .int (nI (2 * vn + hq2))), (4, .int (nI (i7 + 1)))]) := lv_sub hl [1, 2, 3, 0] rfl
                            exact ih289_3 (i7 + 1) g355 (fT (fT m6a (30 + (2 * vn + hq2) * ((cc + 1) + 1) + (ncS (ncw (vF 61) (vF 71) (vF 72) (vF 73)) i7)) hI) (30 + (2 * vn + hq2) * ((cc + 1) + 1) + ((ncS (ncw (vF 61) (vF 71) (vF 72) (vF 73)) i7) + 1)) hI) _ _ _ (f355_0) (by omega) (fun j hj => by by_cases e8 : j = ncS (ncw (vF 61) (vF 71) (vF 72) (vF 73)) i7 + 1; (rw [e8, fT_eq]; exact Nat.le_trans hI9 (bcl_one _ _)); rw [fT_ne _ _ (by omega)]; by_cases e9 : j = ncS (ncw (vF 61) (vF 71) (vF 72) (vF 73)) i7; (rw [e9, fT_eq]; exact Nat.le_trans hI9 (bcl_one _ _)); (rw [fT_ne _ _ (by omega)]; exact hrw j hj)) (fun q hq => by (rw [fT_ne _ _ (by omega), fT_ne _ _ (by omega)]); exact hfr q hq) (by omega) hP hD hS hl
                          · have f332_0 : ¬ EqP (vF 61) (vF 71) (vF 72) i7 := f332_0
                            refine lv_if_eq (tgt := 358) hx hb dX12_addsUp_335 (by decide) (fun _ => ?_) (fun c9 => absurd (by decide) c9)
                            refine lv_iinc (v := (nI (i7 + 1))) hx hb dX12_addsUp_358 hl (k := 3) rfl (nI_add i7 1) (by decide) rfl (fun ls (hl : lv_has ls _ ([(4, .int (nI (i7 + 1))), (0, .ref h0), (2, .int hw2), (3, .int (nI (2 * vn + hq2)))])) => ?_)
                            refine lv_goto (tgt := 289) hx hb dX12_addsUp_361 (by decide) ?_
                            have hl : lv_has _ _ ([(0, .ref h0), (2, .int hw2), (3, .int (nI (2 * vn + hq2))), (4, .int (nI (i7 + 1)))]) := lv_sub hl [1, 2, 3, 0] rfl
                            exact ih289_3 (i7 + 1) g326 (fT m6a (30 + (2 * vn + hq2) * ((cc + 1) + 1) + (ncS (ncw (vF 61) (vF 71) (vF 72) (vF 73)) i7)) hI) _ _ _ (f326_0) (by omega) (fun j hj => by by_cases e9 : j = ncS (ncw (vF 61) (vF 71) (vF 72) (vF 73)) i7; (rw [e9, fT_eq]; exact Nat.le_trans hI9 (bcl_one _ _)); (rw [fT_ne _ _ (by omega)]; exact hrw j hj)) (fun q hq => by (rw [fT_ne _ _ (by omega)]); exact hfr q hq) (by omega) hP hD hS hl
                        · have t_305 : (((vF 73) i7)).toInt = 0 := toI_nne c_305 rfl (by decide)
                          refine lv_goto (tgt := 358) hx hb dX12_addsUp_308 (by decide) ?_
                          refine lv_iinc (v := (nI (i7 + 1))) hx hb dX12_addsUp_358 hl (k := 3) rfl (nI_add i7 1) (by decide) rfl (fun ls (hl : lv_has ls _ ([(4, .int (nI (i7 + 1))), (0, .ref h0), (2, .int hw2), (3, .int (nI (2 * vn + hq2)))])) => ?_)
                          refine lv_goto (tgt := 289) hx hb dX12_addsUp_361 (by decide) ?_
                          have hl : lv_has _ _ ([(0, .ref h0), (2, .int hw2), (3, .int (nI (2 * vn + hq2))), (4, .int (nI (i7 + 1)))]) := lv_sub hl [1, 2, 3, 0] rfl
                          exact ih289_3 (i7 + 1) g6 m6a _ _ _ (hB6) (by omega) (hrw) (hfr) (by omega) hP hD hS hl
            · rintro H locs ls stk ⟨Rf, gF, f5F, mF, hBF, hRf, hBlF, h45F, h20F, hoF, rfl, hP, hD, hS, hl⟩
              have hR18 : Rf ≤ 18 := by rcases hRf with h | h; (exact Nat.le_trans h.1 (by decide)); (exact h.1)
              have hm0 := hex (Rf + 0) (by omega)
              have hm1 := hex (Rf + 1) (by omega)
              have hm2 := hex (Rf + 2) (by omega)
              have e1 : (Rf + 1) * (cc + 1 + 1) = Rf * (cc + 1 + 1) + (cc + 1 + 1) := Nat.succ_mul _ _
              have e2 : (Rf + 2) * (cc + 1 + 1) = (Rf + 1) * (cc + 1 + 1) + (cc + 1 + 1) := Nat.succ_mul _ _
              have e0 : (Rf + 0) * (cc + 1 + 1) = Rf * (cc + 1 + 1) := rfl
              refine lv_aload_n hx hb dX12_addsUp_385 rfl (lv_at hl 0 rfl) ?_
              have hFc := allFree hD hS hA
              refine va_callv (va_runV (As := []) (rest := []) ⟨hx, hb, hml, hown, hts⟩ (r_X12_start l dC dI a k h0 (fT (fT (fT vi 5 (nI (cc + 1))) 6 (nI Rf)) 7 0) vj (fT (fT (fT (fT (fT (fT (fT vF 74 f74x) 0 gF) 4 f456) 6 f656) 2 f21) 3 f31) 5 f5F) (fT vG 1 gs1) (cc + 1) Rf 0 mF hBF (by first | with_reducible assumption | decide | omega | rfl | assumption) (by first | with_reducible assumption | decide | omega | rfl | assumption) (nI_0.symm) (by first | with_reducible assumption | decide | omega | rfl | assumption) (by first | with_reducible assumption | decide | omega | rfl | assumption) (by first | with_reducible assumption | decide | omega | rfl | assumption) H.size) (cwV 0 hts gwsRX12_addsUp_7 rfl rfl rfl hd_yX12_start_RX12 (by decide +kernel)) (fz_pre (va_recv hK hP (ci := 12) (q0 := 0) rfl rfl) hP hK hD) rfl rfl hl.1 rfl (lv_room (Nat.le_of_ble_eq_true rfl)) dX12_addsUp_386 (by decide +kernel)) hS (fun q _ h => hFc q h) hFc (fun u t9_ H locs ht hvm hw9 hB9 hz1 hk1 hS => ?_)
              revert u hw9 hB9
              refine fz_p2 ?_
              intro g386 m2386 hw9 hB9
              try dsimp only at hw9 hB9
              have e9i : fT (fT (fT vi 5 (nI (cc + 1))) 6 (nI Rf)) 7 (nI (0 + 1)) = fT (fT (fT (fT vi 5 (nI (cc + 1))) 6 (nI Rf)) 7 0) 7 (nI (0 + 1)) := (fT_sm _ _ _ _).symm
              have e9F : fT (fT (fT (fT (fT (fT (fT vF 74 f74x) 0 g386) 4 f456) 6 f656) 2 f21) 3 f31) 5 f5F = fT (fT (fT (fT (fT (fT (fT (fT vF 74 f74x) 0 gF) 4 f456) 6 f656) 2 f21) 3 f31) 5 f5F) 0 g386 := ((fT_sw _ _ _ (Nat.ne_of_beq_eq_false rfl)).trans (congrArg (fun g9 => fT g9 5 f5F) ((fT_sw _ _ _ (Nat.ne_of_beq_eq_false rfl)).trans (congrArg (fun g9 => fT g9 3 f31) ((fT_sw _ _ _ (Nat.ne_of_beq_eq_false rfl)).trans (congrArg (fun g9 => fT g9 2 f21) ((fT_sw _ _ _ (Nat.ne_of_beq_eq_false rfl)).trans (congrArg (fun g9 => fT g9 6 f656) ((fT_sw _ _ _ (Nat.ne_of_beq_eq_false rfl)).trans (congrArg (fun g9 => fT g9 4 f456) (fT_sm _ _ _ _))))))))))).symm
              have hP := wr_PF e9F (wr_Pi e9i (fz_P ht hB9.1))
              have hD := wr_DF e9F (wr_Di e9i (hB9.2.weaken (fun _ q _ h => hFc q.1 h)))
              clear e9i e9F
              revert hw9
              refine fz_a3 ?_
              intro f386_0 f386_1 f386_2
              refine lv_aload_n hx hb dX12_addsUp_389 rfl (lv_at hl 0 rfl) ?_
              have hFc := allFree hD hS hA
              refine va_calli (va_runV (As := []) (rest := []) ⟨hx, hb, hml, hown, hts⟩ (r_X12_goalRow l dC dI a k h0 (fT (fT (fT vi 5 (nI (cc + 1))) 6 (nI Rf)) 7 (nI (0 + 1))) vj (fT (fT (fT (fT (fT (fT (fT vF 74 f74x) 0 g386) 4 f456) 6 f656) 2 f21) 3 f31) 5 f5F) (fT vG 1 gs1) (cc + 1) Rf 1 m2386 f386_0 (by first | with_reducible assumption | decide | omega | rfl | assumption) (by first | with_reducible assumption | decide | omega | rfl | assumption) (rfl) (by first | with_reducible assumption | decide | omega | rfl | assumption) (by first | with_reducible assumption | decide | omega | rfl | assumption) (by first | with_reducible assumption | decide | omega | rfl | assumption) H.size) (cwV 0 hts gwsRX12_addsUp_8 rfl rfl rfl hd_yX12_goalRow_RX12 (by decide +kernel)) (fz_pre (va_recv hK hP (ci := 12) (q0 := 0) rfl rfl) hP hK hD) rfl rfl hl.1 rfl (lv_room (Nat.le_of_ble_eq_true rfl)) dX12_addsUp_390 (by decide +kernel)) hS (fun q _ h => hFc q h) hFc (fun r390 u t9_ H locs ht hvm hw9 hB9 hz1 hk1 hS => ?_)
              revert u hw9 hB9
              refine fz_p2 ?_
              intro g390 m2390 hw9 hB9
              try dsimp only at hw9 hB9
              have e9i : fT (fT (fT vi 5 (nI (cc + 1))) 6 (nI Rf)) 7 (nI (1 + 1)) = fT (fT (fT (fT vi 5 (nI (cc + 1))) 6 (nI Rf)) 7 (nI (0 + 1))) 7 (nI (1 + 1)) := (fT_sm _ _ _ _).symm
              have e9F : fT (fT (fT (fT (fT (fT (fT vF 74 f74x) 0 g390) 4 f456) 6 f656) 2 f21) 3 f31) 5 f5F = fT (fT (fT (fT (fT (fT (fT (fT vF 74 f74x) 0 g386) 4 f456) 6 f656) 2 f21) 3 f31) 5 f5F) 0 g390 := ((fT_sw _ _ _ (Nat.ne_of_beq_eq_false rfl)).trans (congrArg (fun g9 => fT g9 5 f5F) ((fT_sw _ _ _ (Nat.ne_of_beq_eq_false rfl)).trans (congrArg (fun g9 => fT g9 3 f31) ((fT_sw _ _ _ (Nat.ne_of_beq_eq_false rfl)).trans (congrArg (fun g9 => fT g9 2 f21) ((fT_sw _ _ _ (Nat.ne_of_beq_eq_false rfl)).trans (congrArg (fun g9 => fT g9 6 f656) ((fT_sw _ _ _ (Nat.ne_of_beq_eq_false rfl)).trans (congrArg (fun g9 => fT g9 4 f456) (fT_sm _ _ _ _))))))))))).symm
              have hP := wr_PF e9F (wr_Pi e9i (fz_P ht hB9.1))
              have hD := wr_DF e9F (wr_Di e9i (hB9.2.weaken (fun _ q _ h => hFc q.1 h)))
              clear e9i e9F
              obtain ⟨rfl, f390_0, f390_1, f390_2⟩ := hw9
              refine lv_istore_n hx hb dX12_addsUp_393 rfl hl (by decide) rfl (fun ls (hl : lv_has ls _ ([(2, .int (nI (Rf + 1))), (0, .ref h0)])) => ?_)
              refine lv_iconst (v := 0) hx hb dX12_addsUp_394 (by decide) ?_
              refine lv_istore_n hx hb dX12_addsUp_395 rfl hl (by decide) rfl (fun ls (hl : lv_has ls _ ([(3, .int 0), (2, .int (nI (Rf + 1))), (0, .ref h0)])) => ?_)
              have hl : lv_has _ _ ([(0, .ref h0), (2, .int (nI (Rf + 1))), (3, .int (nI 0))]) := lv_sub hl [2, 1, 0] rfl
              refine (fun (loop : ∀ (n9 : Nat) (i8 : Nat) (g7 : Nat → Int32) (m6 : Nat → Int) (H : Heap) (locs : List Loc) (ls : Array Slot), (Bg g7 m6) → (i8 ≤ nd) → (RwB (cc + 1) m6 (Rf + 1) (fun _ => 99999)) → (∀ q, (q < 30 + (Rf + 1) * (cc + 1 + 1) ∨ 30 + (Rf + 1) * (cc + 1 + 1) + (cc + 1 - 1) ≤ q) → m6 q = m2390 q) →  (nd < i8 + n9) → va_P (dC, dI) vwCl (WR a k h0 (fT (fT (fT vi 5 (nI (cc + 1))) 6 (nI Rf)) 7 (nI (1 + 1))) vj (fT (fT (fT (fT (fT (fT (fT vF 74 f74x) 0 g7) 4 f456) 6 f656) 2 f21) 3 f31) 5 f5F) (fT vG 1 gs1)) H → va_D A (WR a k h0 (fT (fT (fT vi 5 (nI (cc + 1))) 6 (nI Rf)) 7 (nI (1 + 1))) vj (fT (fT (fT (fT (fT (fT (fT vF 74 f74x) 0 g7) 4 f456) 6 f656) 2 f21) 3 f31) 5 f5F) (fT vG 1 gs1)) → va_S A s.heap H locs → lv_has ls 6 [(0, .ref h0), (2, .int (nI (Rf + 1))), (3, .int (nI i8))] → W p l e _ s m _ below meth c H locs 0 0 _ (F0 m 396 ls [])) => loop (nd + 1) 0 g390 m2390 _ _ _ (f390_0) (by omega) (fun j hj => by rw [f390_1 j (by omega)]; exact Nat.zero_le _) (fun q _ => rfl) (by omega) hP hD hS hl) ?_
              intro n9
              induction n9 with
              | zero => intro i8 g7 m6 H locs ls hB7 hi8 hrw hfr hf9; exact False.elim (by omega)
              | succ n9 ih396_4 =>
                intro i8 g7 m6 H locs ls hB7 hi8 hrw hfr hf396_4 hP hD hS hl
                refine lv_iload_n hx hb dX12_addsUp_396 rfl (lv_at hl 2 rfl) ?_
                refine lv_aload_n hx hb dX12_addsUp_397 rfl (lv_at hl 0 rfl) ?_
                refine va_get (D := (dC, dI)) (ci := 12) (v := .int (vi 119)) (C := RX12) (T := TX12) (N := 163) (fs := fM (vS a (fT (fT (fT vi 5 (nI (cc + 1))) 6 (nI Rf)) 7 (nI (1 + 1))) vj)) hx hb hts iwsRX12_addsUp_in12 hown hK hP 0 rfl rfl 119 (by decide) (hts _ hm_r_X12_addsUp_0) (fun _ h9 => h9) rfl dX12_addsUp_398 ?_
                refine lv_topi (fun y11 hy11 => ?_)
                obtain rfl : (nI nd) = y11 := (hy11.trans (hnd)).symm
                refine lv_icmp_ge (tgt := 423) hx hb dX12_addsUp_401 (by decide) (fun c_401 => ?_) (fun c_401 => ?_)
                · have t_401 : ((i8 : Nat) : Int) ≥ ((nd : Nat) : Int) := toI_ge c_401 (nI_toInt (by omega)) (nI_toInt (by omega))
                  have hbk : ∀ q, (q < 30 + Rf * (cc + 1 + 1) ∨ 30 + (Rf + 1) * (cc + 1 + 1) + (cc + 1) < q) → m6 q = mF q := fun q hq => by rw [hfr q (by omega), f390_2 q (by omega), f386_2 q (by omega)]
                  have hr1 : ∀ j, j ≤ cc + 1 → m6 (30 + Rf * (cc + 1 + 1) + j) = if j = cc + 1 - 1 then 1 else 0 := fun j hj => by rw [hfr _ (by omega), f390_2 _ (by omega)]; exact f386_1 j hj
                  have hr2 : ∀ j, j ≤ cc + 1 → (m6 (30 + (Rf + 1) * (cc + 1 + 1) + j)).natAbs ≤ 99999 := fun j hj => by by_cases e9 : j < cc + 1 - 1; (exact hrw j e9); (rw [hfr _ (by omega), f390_1 j hj]; exact Nat.zero_le _)
                  have hBl6 : BldP (cc + 1) Rf m6 f5F (bcl (ncS (ncw (vF 61) (vF 71) (vF 72) (vF 73)) z)) Bs := hBlF.frame (fun p h1 h2 => hbk p (by omega))
                  have hps := prov_small (C := cc + 1) (R := Rf) (m := m6) (f5 := f5F) (by omega) (by omega) h40.2.2 (by omega) hBl6 hRf hr1 hr2
                  have hsm : Small (cc + 1) Rf (Rf + 2) (fun i j => m6 (30 + i * (cc + 1 + 1) + j)) := fun t D rl cl h => ⟨Nat.lt_of_lt_of_le (hps t D rl cl h).1.1 (Nat.pow_le_pow_right (by decide) (by decide)), (hps t D rl cl h).2⟩
                  have h20x : m6 20 = 1 := (hbk 20 (by omega)).trans h20F
                  refine lv_aload_n hx hb dX12_addsUp_423 rfl (lv_at hl 0 rfl) ?_
                  refine W.cut (pc := 443) (fun H locs ls stk => ∃ (is9 : Int32) (t7 : Nat → Nat → Int) (D7 : Int) (g9 : Nat → Int32) (f29 : Nat → Int32) (f39 : Nat → Int32) (f49x : Nat → Int32) (f59x : Nat → Int32) (f69x : Nat → Int32) (gs9 : Nat → Int64) (F9 : Nat → Int64) (L89 : Nat → Int64) (qk9 : Int32) (qd9 : Int64) (m7 : Nat → Int), (Bg g9 m7) ∧ (Tab qk9 (cc + 1) (Rf + 2) m7 F9 qd9 t7 D7) ∧ (Sx (cc + 1) Rf (Rf + 2) (fun i j => m6 (30 + i * (cc + 1 + 1) + j)) t7 D7 f49x f59x) ∧ (∀ q, 1000 ≤ q → m7 q = m6 q) ∧ (is9 = 0 ∨ is9 = 1) ∧  stk = [.int is9] ∧ va_P (dC, dI) vwCl (WR a k h0 (fT (fT (fT (fT vi 5 (nI (cc + 1))) 6 (nI Rf)) 7 (nI (1 + 1))) 11 qk9) (fT vj 12 qd9) (fT (fT (fT (fT (fT (fT (fT vF 74 f74x) 0 g9) 4 f49x) 6 f69x) 2 f29) 3 f39) 5 f59x) (fT (fT (fT vG 1 gs9) 7 F9) 8 L89)) H ∧ va_D A (WR a k h0 (fT (fT (fT (fT vi 5 (nI (cc + 1))) 6 (nI Rf)) 7 (nI (1 + 1))) 11 qk9) (fT vj 12 qd9) (fT (fT (fT (fT (fT (fT (fT vF 74 f74x) 0 g9) 4 f49x) 6 f69x) 2 f29) 3 f39) 5 f59x) (fT (fT (fT vG 1 gs9) 7 F9) 8 L89)) ∧ va_S A s.heap H locs ∧ lv_has ls 6 [(0, .ref h0)]) (fun join3 => ?_) ?_
                  · have hFc := allFree hD hS hA
                    refine va_calli (va_runV (As := []) (rest := []) ⟨hx, hb, hml, hown, hts⟩ (r_X12_canKeep l dC dI a k h0 (fT (fT (fT vi 5 (nI (cc + 1))) 6 (nI Rf)) 7 (nI (1 + 1))) vj (fT (fT (fT (fT (fT (fT (fT vF 74 f74x) 0 g7) 4 f456) 6 f656) 2 f21) 3 f31) 5 f5F) (fT vG 1 gs1) (cc + 1) Rf 2 (fun i j => m6 (30 + i * (cc + 1 + 1) + j)) m6 hB7 (by first | with_reducible assumption | decide | omega | rfl | assumption) (by first | with_reducible assumption | decide | omega | rfl | assumption) (rfl) (by first | with_reducible assumption | decide | omega | rfl | assumption) (by first | with_reducible assumption | decide | omega | rfl | assumption) (by first | with_reducible assumption | decide | omega | rfl | assumption) (⟨fun i _ j _ => rfl, h20x⟩) (f56_1) (fun i hi => (hBl6 i hi).1) (fun i hi => (hBl6 i hi).2.2.1) (hr1) (by first | with_reducible assumption | decide | omega | rfl | assumption) (hsm) H.size) (cwV 0 hts gwsRX12_addsUp_9 rfl rfl rfl hd_yX12_canKeep_RX12 (by decide +kernel)) (fz_pre (va_recv hK hP (ci := 12) (q0 := 0) rfl rfl) hP hK hD) rfl rfl hl.1 rfl (lv_room (Nat.le_of_ble_eq_true rfl)) dX12_addsUp_424 (by decide +kernel)) hS (fun q _ h => hFc q h) hFc (fun r424 u t9_ H locs ht hvm hw9 hB9 hz1 hk1 hS => ?_)
                    revert u hw9 hB9
                    refine fz_p14 ?_
                    intro g424 f2w424 f3w424 f4424 f5424 f6424 gs424 F424 L8424 qk424 qd424 m2424 t2424 D2424 hw9 hB9
                    try dsimp only at hw9 hB9
                    have e9F : fT (fT (fT (fT (fT (fT (fT vF 74 f74x) 0 g424) 4 f4424) 6 f6424) 2 f2w424) 3 f3w424) 5 f5424 = fT (fT (fT (fT (fT (fT (fT (fT (fT (fT (fT (fT (fT vF 74 f74x) 0 g7) 4 f456) 6 f656) 2 f21) 3 f31) 5 f5F) 0 g424) 2 f2w424) 3 f3w424) 4 f4424) 5 f5424) 6 f6424 := Eq.symm (Eq.trans (congrArg (fun g9 => fT g9 6 f6424) (Eq.trans (congrArg (fun g9 => fT g9 5 f5424) (Eq.trans (congrArg (fun g9 => fT g9 4 f4424) (Eq.trans (congrArg (fun g9 => fT g9 3 f3w424) (Eq.trans (congrArg (fun g9 => fT g9 2 f2w424) (up_5 rfl)) (up_2 rfl))) (up_1 rfl))) (up_4 rfl))) (up_0 rfl))) (up_3 rfl))
                    have e9G : fT (fT (fT vG 1 gs424) 7 F424) 8 L8424 = fT (fT (fT (fT vG 1 gs1) 7 F424) 1 gs424) 8 L8424 := (congrArg (fun g9 => fT g9 8 L8424) ((fT_sw _ _ _ (Nat.ne_of_beq_eq_false rfl)).trans (congrArg (fun g9 => fT g9 7 F424) (fT_sm _ _ _ _)))).symm
                    have hP := wr_PG e9G (wr_PF e9F (fz_P ht hB9.1))
                    have hD := wr_DG e9G (wr_DF e9F (hB9.2.weaken (fun _ q _ h => hFc q.1 h)))
                    clear e9F e9G
                    rcases hw9 with ⟨rfl, f424_0, f424_1, f424_2, f424_3, f424_4⟩ | ⟨rfl, f424_0, f424_1, f424_2, f424_3, f424_4⟩
                    · refine lv_if_eq (tgt := 442) hx hb dX12_addsUp_427 (by decide) (fun _ => ?_) (fun c9 => absurd (by decide) c9)
                      refine lv_iconst (v := 0) hx hb dX12_addsUp_442 (by decide) ?_
                      have hl : lv_has _ _ ([(0, .ref h0)]) := lv_sub hl [0] rfl
                      exact join3 _ _ _ _ ⟨0, t2424, D2424, g424, f2w424, f3w424, f4424, f5424, f6424, gs424, F424, L8424, qk424, qd424, m2424, f424_0, f424_1, f424_2, fun q hq => by (rw [f424_4 _ (by omega)]), Or.inl rfl, rfl, hP, hD, hS, hl⟩
                    · refine lv_if_eq (tgt := 442) hx hb dX12_addsUp_427 (by decide) (fun c9 => absurd c9 (by decide)) (fun _ => ?_)
                      refine lv_aload_n hx hb dX12_addsUp_430 rfl (lv_at hl 0 rfl) ?_
                      refine lv_iload_n hx hb dX12_addsUp_431 rfl (lv_at hl 1 rfl) ?_
                      have hFc := allFree hD hS hA
                      refine va_calli (va_runV (As := [.int (nI (Rf + 1))]) (rest := []) ⟨hx, hb, hml, hown, hts⟩ (r_X12_raise l dC dI a k h0 (fT (fT (fT (fT vi 5 (nI (cc + 1))) 6 (nI Rf)) 7 (nI (1 + 1))) 11 qk424) (fT vj 12 qd424) (fT (fT (fT (fT (fT (fT (fT vF 74 f74x) 0 g424) 4 f4424) 6 f6424) 2 f2w424) 3 f3w424) 5 f5424) (fT (fT (fT vG 1 gs424) 7 F424) 8 L8424) (Rf + 1) (fun i j => m6 (30 + i * (cc + 1 + 1) + j)) (cc + 1) Rf 2 t2424 D2424 m2424 f424_0 (by first | with_reducible assumption | decide | omega | rfl | assumption) (by first | with_reducible assumption | decide | omega | rfl | assumption) (rfl) (by first | with_reducible assumption | decide | omega | rfl | assumption) (by first | with_reducible assumption | decide | omega | rfl | assumption) (by first | with_reducible assumption | decide | omega | rfl | assumption) (f424_1) (f424_2) (hsm) (f424_3) (by first | with_reducible assumption | decide | omega | rfl | assumption) (by first | with_reducible assumption | decide | omega | rfl | assumption) H.size) (cwV 1 hts gwsRX12_addsUp_10 rfl rfl rfl hd_yX12_raise_RX12 (by decide +kernel)) (fz_pre (va_recv hK hP (ci := 12) (q0 := 0) rfl rfl) hP hK hD) rfl rfl hl.1 rfl (lv_room (Nat.le_of_ble_eq_true rfl)) dX12_addsUp_432 (by decide +kernel)) hS (fun q _ h => hFc q h) hFc (fun r432 u t9_ H locs ht hvm hw9 hB9 hz1 hk1 hS => ?_)
                      revert u hw9 hB9
                      refine fz_p14 ?_
                      intro g432 f2w432 f3w432 f4432 f5432 f6432 gs432 F432 L8432 qk432 qd432 m2432 t2432 D2432 hw9 hB9
                      try dsimp only at hw9 hB9
                      have e9i : fT (fT (fT (fT vi 5 (nI (cc + 1))) 6 (nI Rf)) 7 (nI (1 + 1))) 11 qk432 = fT (fT (fT (fT (fT vi 5 (nI (cc + 1))) 6 (nI Rf)) 7 (nI (1 + 1))) 11 qk424) 11 qk432 := (fT_sm _ _ _ _).symm
                      have e9j : fT vj 12 qd432 = fT (fT vj 12 qd424) 12 qd432 := (fT_sm _ _ _ _).symm
                      have e9F : fT (fT (fT (fT (fT (fT (fT vF 74 f74x) 0 g432) 4 f4432) 6 f6432) 2 f2w432) 3 f3w432) 5 f5432 = fT (fT (fT (fT (fT (fT (fT (fT (fT (fT (fT (fT (fT vF 74 f74x) 0 g424) 4 f4424) 6 f6424) 2 f2w424) 3 f3w424) 5 f5424) 0 g432) 2 f2w432) 3 f3w432) 4 f4432) 5 f5432) 6 f6432 := Eq.symm (Eq.trans (congrArg (fun g9 => fT g9 6 f6432) (Eq.trans (congrArg (fun g9 => fT g9 5 f5432) (Eq.trans (congrArg (fun g9 => fT g9 4 f4432) (Eq.trans (congrArg (fun g9 => fT g9 3 f3w432) (Eq.trans (congrArg (fun g9 => fT g9 2 f2w432) (up_5 rfl)) (up_2 rfl))) (up_1 rfl))) (up_4 rfl))) (up_0 rfl))) (up_3 rfl))
                      have e9G : fT (fT (fT vG 1 gs432) 7 F432) 8 L8432 = fT (fT (fT (fT (fT (fT vG 1 gs424) 7 F424) 8 L8424) 1 gs432) 7 F432) 8 L8432 := ((congrArg (fun g9 => fT (fT g9 7 F432) 8 L8432) ((fT_sw _ _ _ (Nat.ne_of_beq_eq_false rfl)).trans (congrArg (fun g9 => fT g9 8 L8424) ((fT_sw _ _ _ (Nat.ne_of_beq_eq_false rfl)).trans (congrArg (fun g9 => fT g9 7 F424) (fT_sm _ _ _ _)))))).trans ((congrArg (fun g9 => fT g9 8 L8432) ((fT_sw _ _ _ (Nat.ne_of_beq_eq_false rfl)).trans (congrArg (fun g9 => fT g9 8 L8424) (fT_sm _ _ _ _)))).trans (fT_sm _ _ _ _))).symm
                      have hP := wr_PG e9G (wr_PF e9F (wr_Pj e9j (wr_Pi e9i (fz_P ht hB9.1))))
                      have hD := wr_DG e9G (wr_DF e9F (wr_Dj e9j (wr_Di e9i (hB9.2.weaken (fun _ q _ h => hFc q.1 h)))))
                      clear e9i e9j e9F e9G
                      revert hw9
                      refine fz_a6 ?_
                      intro f432_0 f432_1 f432_2 f432_3 f432_4 f432_5
                      refine lv_if_eq (tgt := 442) hx hb dX12_addsUp_435 (by decide) (fun c_435 => ?_) (fun c_435 => ?_)
                      · have t_435 : (r432).toInt = 0 := toI_eq c_435 rfl (by decide)
                        refine lv_iconst (v := 0) hx hb dX12_addsUp_442 (by decide) ?_
                        have hl : lv_has _ _ ([(0, .ref h0)]) := lv_sub hl [0] rfl
                        exact join3 _ _ _ _ ⟨0, t2432, D2432, g432, f2w432, f3w432, f4432, f5432, f6432, gs432, F432, L8432, qk432, qd432, m2432, f432_0, f432_1, f432_2, fun q hq => by (rw [f432_4 _ (by omega), f424_4 _ (by omega)]), Or.inl rfl, rfl, hP, hD, hS, hl⟩
                      · have t_435 : ¬ (r432).toInt = 0 := toI_neq c_435 rfl (by decide)
                        refine lv_iconst (v := 1) hx hb dX12_addsUp_438 (by decide) ?_
                        refine lv_goto (tgt := 443) hx hb dX12_addsUp_439 (by decide) ?_
                        have hl : lv_has _ _ ([(0, .ref h0)]) := lv_sub hl [0] rfl
                        exact join3 _ _ _ _ ⟨1, t2432, D2432, g432, f2w432, f3w432, f4432, f5432, f6432, gs432, F432, L8432, qk432, qd432, m2432, f432_0, f432_1, f432_2, fun q hq => by (rw [f432_4 _ (by omega), f424_4 _ (by omega)]), Or.inr rfl, rfl, hP, hD, hS, hl⟩
                  · rintro H locs ls stk ⟨is9, t7, D7, g9, f29, f39, f49x, f59x, f69x, gs9, F9, L89, qk9, qd9, m7, hB8, hT7, hS7, ho7, his, rfl, hP, hD, hS, hl⟩
                    refine lv_istore_n hx hb dX12_addsUp_443 rfl hl (by decide) rfl (fun ls (hl : lv_has ls _ ([(3, .int is9), (0, .ref h0)])) => ?_)
                    have hD7 := hS7.1.2.1
                    have hb7 := hps _ _ _ _ hS7.1
                    refine lv_aload_n hx hb dX12_addsUp_444 rfl (lv_at hl 1 rfl) ?_
                    have hFc := allFree hD hS hA
                    refine va_callv (va_runV (As := []) (rest := []) ⟨hx, hb, hml, hown, hts⟩ (r_X12_spill l dC dI a k h0 (fT (fT (fT (fT vi 5 (nI (cc + 1))) 6 (nI Rf)) 7 (nI (1 + 1))) 11 qk9) (fT vj 12 qd9) (fT (fT (fT (fT (fT (fT (fT vF 74 f74x) 0 g9) 4 f49x) 6 f69x) 2 f29) 3 f39) 5 f59x) (fT (fT (fT vG 1 gs9) 7 F9) 8 L89) (cc + 1) Rf 2 t7 D7 m7 hB8 (by first | with_reducible assumption | decide | omega | rfl | assumption) (by first | with_reducible assumption | decide | omega | rfl | assumption) (rfl) (by first | with_reducible assumption | decide | omega | rfl | assumption) (by first | with_reducible assumption | decide | omega | rfl | assumption) (by first | with_reducible assumption | decide | omega | rfl | assumption) (hT7) (hD7) H.size) (cwV 0 hts gwsRX12_addsUp_11 rfl rfl rfl hd_yX12_spill_RX12 (by decide +kernel)) (fz_pre (va_recv hK hP (ci := 12) (q0 := 0) rfl rfl) hP hK hD) rfl rfl hl.1 rfl (lv_room (Nat.le_of_ble_eq_true rfl)) dX12_addsUp_445 (by decide +kernel)) hS (fun q _ h => hFc q h) hFc (fun u t9_ H locs ht hvm hw9 hB9 hz1 hk1 hS => ?_)
                    revert u hw9 hB9
                    refine fz_p2 ?_
                    intro g445 m2445 hw9 hB9
                    try dsimp only at hw9 hB9
                    have e9i : fT (fT (fT (fT vi 5 (nI (cc + 1))) 6 (nI Rf)) 7 (nI (1 + 1))) 11 0 = fT (fT (fT (fT (fT vi 5 (nI (cc + 1))) 6 (nI Rf)) 7 (nI (1 + 1))) 11 qk9) 11 0 := (fT_sm _ _ _ _).symm
                    have e9F : fT (fT (fT (fT (fT (fT (fT vF 74 f74x) 0 g445) 4 f49x) 6 f69x) 2 f29) 3 f39) 5 f59x = fT (fT (fT (fT (fT (fT (fT (fT vF 74 f74x) 0 g9) 4 f49x) 6 f69x) 2 f29) 3 f39) 5 f59x) 0 g445 := ((fT_sw _ _ _ (Nat.ne_of_beq_eq_false rfl)).trans (congrArg (fun g9 => fT g9 5 f59x) ((fT_sw _ _ _ (Nat.ne_of_beq_eq_false rfl)).trans (congrArg (fun g9 => fT g9 3 f39) ((fT_sw _ _ _ (Nat.ne_of_beq_eq_false rfl)).trans (congrArg (fun g9 => fT g9 2 f29) ((fT_sw _ _ _ (Nat.ne_of_beq_eq_false rfl)).trans (congrArg (fun g9 => fT g9 6 f69x) ((fT_sw _ _ _ (Nat.ne_of_beq_eq_false rfl)).trans (congrArg (fun g9 => fT g9 4 f49x) (fT_sm _ _ _ _))))))))))).symm
                    have hP := wr_PF e9F (wr_Pi e9i (fz_P ht hB9.1))
                    have hD := wr_DF e9F (wr_Di e9i (hB9.2.weaken (fun _ q _ h => hFc q.1 h)))
                    clear e9i e9F
                    revert hw9
                    refine fz_a3 ?_
                    intro f445_0 f445_1 f445_2
                    refine lv_iload_n hx hb dX12_addsUp_448 rfl (lv_at hl 0 rfl) ?_
                    refine W.widen (k := 0) (n := 0) (by decide +kernel) (by decide +kernel) ?_
                    have e9 : fT (fT (fT (fT vi 5 (nI (cc + 1))) 6 (nI Rf)) 7 (nI 2)) 11 0 = fT (fT (fT (fT vi 5 (nI (cc + 1))) 6 (nI Rf)) 7 (nI (1 + 1))) 11 0 := Eq.trans (mv_1 rfl) (Eq.trans (congrArg (fT _ 7) (show nI 2 = nI (1 + 1) from (by first | with_reducible rfl | with_reducible assumption | (symm; with_reducible assumption) | rfl | assumption | (symm; assumption) | (subst_vars; rfl)))) (mv_1 rfl))
                    have hP := wr_Pi e9 hP
                    have hD := wr_Di e9 hD
                    clear e9
                    exact W.zret (v := is9) hx hb hr (by rcases his with h | h <;> rw [h] <;> rfl) (fun t9_ ht hW => ⟨⟨is9, (g445, f29, f39, f49x, f59x, f69x, f74x, gs9, F9, L89, qd9, (cc + 1), Rf, t7, D7, m2445), rfl, by (try dsimp only); exact ⟨f445_0, f445_1, ⟨hD7, hb7.1.1⟩, fun i hi => hb7.1.2 i hi _ (Nat.le_refl _), fun i hi => hb7.2 i hi _ (Nat.le_refl _), by omega, by (have e9 : m2445 1045 = mS 19 := by (rw [f445_2 _ (by omega) (by omega)]); rw [ho7 _ (by omega), hbk _ (by omega)]; exact h45F); rw [e9]; exact ⟨h19p, h19b, h19s⟩, fun q h1 h2 => by (rw [f445_2 _ (by omega) (by omega)]); rw [ho7 _ (by omega), hbk _ (by omega)]; exact hoF q h1 h2, his⟩, by rw [ht]; exact hP, hD⟩, hS.F ht⟩) hS.2.2 dX12_addsUp_449
                · have t_401 : ¬ ((i8 : Nat) : Int) ≥ ((nd : Nat) : Int) := toI_nge c_401 (nI_toInt (by omega)) (nI_toInt (by omega))
                  refine lv_aload_n hx hb dX12_addsUp_404 rfl (lv_at hl 0 rfl) ?_
                  refine lv_iload_n hx hb dX12_addsUp_405 rfl (lv_at hl 1 rfl) ?_
                  refine lv_iload_n hx hb dX12_addsUp_406 rfl (lv_at hl 2 rfl) ?_
                  refine lv_aload_n hx hb dX12_addsUp_407 rfl (lv_at hl 0 rfl) ?_
                  refine lv_iload_n hx hb dX12_addsUp_408 rfl (lv_at hl 2 rfl) ?_
                  refine lv_iconst (v := (-1)) hx hb dX12_addsUp_409 (by decide) ?_
                  have hFc := allFree hD hS hA
                  refine va_calli (va_runV (As := [.int (nI i8), .int (-1)]) (rest := [.int (nI i8), .int (nI (Rf + 1)), .ref h0]) ⟨hx, hb, hml, hown, hts⟩ (r_X12_needNumberb l dC dI a k h0 (fT (fT (fT vi 5 (nI (cc + 1))) 6 (nI Rf)) 7 (nI (1 + 1))) vj (fT (fT (fT (fT (fT (fT (fT vF 74 f74x) 0 g7) 4 f456) 6 f656) 2 f21) 3 f31) 5 f5F) (fT vG 1 gs1) i8 vn mr z nd gq (by first | with_reducible assumption | decide | omega | rfl | assumption) (by first | with_reducible assumption | decide | omega | rfl | assumption) (by first | with_reducible assumption | decide | omega | rfl | assumption) (by first | with_reducible assumption | decide | omega | rfl | assumption) (by first | with_reducible assumption | decide | omega | rfl | assumption) H.size) (cwV 2 hts gwsRX12_addsUp_12 rfl rfl rfl hd_yX12_needNumber_RX12 (by decide +kernel)) (fz_pre (va_recv hK hP (ci := 12) (q0 := 0) rfl rfl) hP hK hD) rfl rfl hl.1 rfl (lv_room (Nat.le_of_ble_eq_true rfl)) dX12_addsUp_410 (by decide +kernel)) hS (fun q _ h => hFc q h) hFc (fun r410 u t9_ H locs ht hvm hw9 hB9 hz1 hk1 hS => ?_)
                  have hP : va_P (dC, dI) vwCl (WR a k h0 (fT (fT (fT vi 5 (nI (cc + 1))) 6 (nI Rf)) 7 (nI (1 + 1))) vj (fT (fT (fT (fT (fT (fT (fT vF 74 f74x) 0 g7) 4 f456) 6 f656) 2 f21) 3 f31) 5 f5F) (fT vG 1 gs1)) H := fz_P ht hB9.1
                  have hD := fz_sd hP (hB9.2.weaken (fun _ q _ h => hFc q.1 h)) rfl
                  have f410_0 := hw9
                  try dsimp only at f410_0
                  refine lv_iconst (v := (-1)) hx hb dX12_addsUp_413 (by decide) ?_
                  have hFc := allFree hD hS hA
                  refine va_callv (va_runV (As := [.int (nI (Rf + 1)), .int (nI i8), .int r410, .int (-1)]) (rest := []) ⟨hx, hb, hml, hown, hts⟩ (r_X12_spread l dC dI a k h0 (fT (fT (fT vi 5 (nI (cc + 1))) 6 (nI Rf)) 7 (nI (1 + 1))) vj (fT (fT (fT (fT (fT (fT (fT vF 74 f74x) 0 g7) 4 f456) 6 f656) 2 f21) 3 f31) 5 f5F) (fT vG 1 gs1) (Rf + 1) r410 (-1) (-1) (cc + 1) (fun _ => 99999) i8 vn mr z nd m6 hB7 (by first | with_reducible assumption | decide | omega | rfl | assumption) (by first | with_reducible assumption | decide | omega | rfl | assumption) (by first | with_reducible assumption | decide | omega | rfl | assumption) (by first | with_reducible assumption | decide | omega | rfl | assumption) (by first | with_reducible assumption | decide | omega | rfl | assumption) (by first | with_reducible assumption | decide | omega | rfl | assumption) (by first | with_reducible assumption | decide | omega | rfl | assumption) (h74 _ (by omega)) (hin i8 (by omega)) (by decide) (Or.inr rfl) (f410_0) (fun _ _ _ => f410_0) (hrw) H.size) (cwV 4 hts gwsRX12_addsUp_13 rfl rfl rfl hd_yX12_spread_RX12 (by decide +kernel)) (fz_pre (va_recv hK hP (ci := 12) (q0 := 0) rfl rfl) hP hK hD) rfl rfl hl.1 rfl (lv_room (Nat.le_of_ble_eq_true rfl)) dX12_addsUp_414 (by decide +kernel)) hS (fun q _ h => hFc q h) hFc (fun u t9_ H locs ht hvm hw9 hB9 hz1 hk1 hS => ?_)
                  revert u hw9 hB9
                  refine fz_p2 ?_
                  intro g414 m2414 hw9 hB9
                  try dsimp only at hw9 hB9
                  have e9F : fT (fT (fT (fT (fT (fT (fT vF 74 f74x) 0 g414) 4 f456) 6 f656) 2 f21) 3 f31) 5 f5F = fT (fT (fT (fT (fT (fT (fT (fT vF 74 f74x) 0 g7) 4 f456) 6 f656) 2 f21) 3 f31) 5 f5F) 0 g414 := ((fT_sw _ _ _ (Nat.ne_of_beq_eq_false rfl)).trans (congrArg (fun g9 => fT g9 5 f5F) ((fT_sw _ _ _ (Nat.ne_of_beq_eq_false rfl)).trans (congrArg (fun g9 => fT g9 3 f31) ((fT_sw _ _ _ (Nat.ne_of_beq_eq_false rfl)).trans (congrArg (fun g9 => fT g9 2 f21) ((fT_sw _ _ _ (Nat.ne_of_beq_eq_false rfl)).trans (congrArg (fun g9 => fT g9 6 f656) ((fT_sw _ _ _ (Nat.ne_of_beq_eq_false rfl)).trans (congrArg (fun g9 => fT g9 4 f456) (fT_sm _ _ _ _))))))))))).symm
                  have hP := wr_PF e9F (fz_P ht hB9.1)
                  have hD := wr_DF e9F (hB9.2.weaken (fun _ q _ h => hFc q.1 h))
                  clear e9F
                  revert hw9
                  refine fz_a3 ?_
                  intro f414_0 f414_1 f414_2
                  refine lv_iinc (v := (nI (i8 + 1))) hx hb dX12_addsUp_417 hl (k := 2) rfl (nI_add i8 1) (by decide) rfl (fun ls (hl : lv_has ls _ ([(3, .int (nI (i8 + 1))), (0, .ref h0), (2, .int (nI (Rf + 1)))])) => ?_)
                  refine lv_goto (tgt := 396) hx hb dX12_addsUp_420 (by decide) ?_
                  have hl : lv_has _ _ ([(0, .ref h0), (2, .int (nI (Rf + 1))), (3, .int (nI (i8 + 1)))]) := lv_sub hl [1, 2, 0] rfl
                  exact ih396_4 (i8 + 1) g414 m2414 _ _ _ (f414_0) (by omega) (f414_1) (fun q hq => by (rw [f414_2 _ (by omega)]); exact hfr q hq) (by omega) hP hD hS hl
          · have t_104 : ¬ ((k5 : Nat) : Int) ≥ ((vn : Nat) : Int) := toI_nge c_104 (nI_toInt (by omega)) (nI_toInt (by omega))
            refine lv_iconst (v := 1) hx hb dX12_addsUp_107 (by decide) ?_
            refine lv_istore_n hx hb dX12_addsUp_108 rfl hl (by decide) rfl (fun ls (hl : lv_has ls _ ([(3, .int 1), (0, .ref h0), (2, .int (nI k5))])) => ?_)
            have e9 : fT (fT (fT vi 5 (nI (cc + 1))) 6 (nI (2 * k5 + 0))) 7 0 = fT (fT (fT vi 5 (nI (cc + 1))) 6 (nI (2 * k5))) 7 0 := Eq.trans (mv_1 rfl) (Eq.trans (congrArg (fT _ 6) (show nI (2 * k5 + 0) = nI (2 * k5) from (by first | with_reducible rfl | with_reducible assumption | (symm; with_reducible assumption) | rfl | assumption | (symm; assumption) | (subst_vars; rfl)))) (mv_1 rfl))
            have hP := wr_Pi e9 hP
            have hD := wr_Di e9 hD
            clear e9
            have hl : lv_has _ _ ([(0, .ref h0), (2, .int (nI k5)), (3, .int 1)]) := lv_sub hl [1, 2, 0] rfl
            refine (fun (loop : ∀ (n9 : Nat) (hw : Int32) (hq : Nat) (g3 : Nat → Int32) (f23 : Nat → Int32) (f33 : Nat → Int32) (f53 : Nat → Int32) (gs3 : Nat → Int64) (m3 : Nat → Int) (H : Heap) (locs : List Loc) (ls : Array Slot), (Bg g3 m3) → ((hq = 0 ∧ hw = 1) ∨ (hq = 1 ∧ hw = -1) ∨ (hq = 2 ∧ hw = -3)) → (BldP (cc + 1) (2 * k5 + hq) m3 f53 (bcl (ncS (ncw (vF 61) (vF 71) (vF 72) (vF 73)) z)) Bs) → (m3 1045 = mS 19) → (m3 20 = 1) → (∀ q, 1000 ≤ q → q ≠ 1045 → m3 q = mg q) →  (3 < hq + n9) → va_P (dC, dI) vwCl (WR a k h0 (fT (fT (fT vi 5 (nI (cc + 1))) 6 (nI (2 * k5 + hq))) 7 0) vj (fT (fT (fT (fT (fT (fT (fT vF 74 f74x) 0 g3) 4 f456) 6 f656) 2 f23) 3 f33) 5 f53) (fT vG 1 gs3)) H → va_D A (WR a k h0 (fT (fT (fT vi 5 (nI (cc + 1))) 6 (nI (2 * k5 + hq))) 7 0) vj (fT (fT (fT (fT (fT (fT (fT vF 74 f74x) 0 g3) 4 f456) 6 f656) 2 f23) 3 f33) 5 f53) (fT vG 1 gs3)) → va_S A s.heap H locs → lv_has ls 6 [(0, .ref h0), (2, .int (nI k5)), (3, .int hw)] → W p l e _ s m _ below meth c H locs 0 0 _ (F0 m 109 ls [])) => loop (4) 1 0 g1 f21 f31 f51 gs1 m1 _ _ _ (hB1) (Or.inl ⟨rfl, rfl⟩) (hBl1) (h451) (h201) (ho1) (by omega) hP hD hS hl) ?_
            intro n9
            induction n9 with
            | zero => intro hw hq g3 f23 f33 f53 gs3 m3 H locs ls hB3 hh hBl3 h453 h203 ho3 hf9; exact False.elim (by omega)
            | succ n9 ih109_5 =>
              intro hw hq g3 f23 f33 f53 gs3 m3 H locs ls hB3 hh hBl3 h453 h203 ho3 hf109_5 hP hD hS hl
              refine lv_iload_n hx hb dX12_addsUp_109 rfl (lv_at hl 2 rfl) ?_
              refine lv_iconst (v := (-1)) hx hb dX12_addsUp_110 (by decide) ?_
              refine lv_icmp_lt (tgt := 261) hx hb dX12_addsUp_111 (by decide) (fun c_111 => ?_) (fun c_111 => ?_)
              · have t_111 : (hw).toInt < -1 := toI_lt c_111 rfl (by decide)
                have hq2 : hq = 2 := by rcases hh with ⟨h1, h2⟩ | ⟨h1, h2⟩ | ⟨h1, h2⟩; (exfalso; rw [h2] at t_111; exact absurd t_111 (by decide)); (exfalso; rw [h2] at t_111; exact absurd t_111 (by decide)); (exact h1)
                have e10 : nI (2 * (k5 + 1)) = nI (2 * k5 + hq) := by rw [hq2]; rfl
                have hBl3e : BldP (cc + 1) (2 * (k5 + 1)) m3 f53 (bcl (ncS (ncw (vF 61) (vF 71) (vF 72) (vF 73)) z)) Bs := by (have h9 := hBl3); rw [hq2] at h9; exact h9
                refine lv_iinc (v := (nI (k5 + 1))) hx hb dX12_addsUp_261 hl (k := 1) rfl (nI_add k5 1) (by decide) rfl (fun ls (hl : lv_has ls _ ([(2, .int (nI (k5 + 1))), (0, .ref h0), (3, .int hw)])) => ?_)
                refine lv_goto (tgt := 99) hx hb dX12_addsUp_264 (by decide) ?_
                have e9 : fT (fT (fT vi 5 (nI (cc + 1))) 6 (nI (2 * (k5 + 1)))) 7 0 = fT (fT (fT vi 5 (nI (cc + 1))) 6 (nI (2 * k5 + hq))) 7 0 := Eq.trans (mv_1 rfl) (Eq.trans (congrArg (fT _ 6) (show nI (2 * (k5 + 1)) = nI (2 * k5 + hq) from (by first | with_reducible rfl | with_reducible assumption | (symm; with_reducible assumption) | rfl | assumption | (symm; assumption) | (subst_vars; rfl)))) (mv_1 rfl))
                have hP := wr_Pi e9 hP
                have hD := wr_Di e9 hD
                clear e9
                have hl : lv_has _ _ ([(0, .ref h0), (2, .int (nI (k5 + 1)))]) := lv_sub hl [1, 0] rfl
                exact ih99_1 (k5 + 1) g3 f23 f33 f53 gs3 m3 _ _ _ (hB3) (by omega) (hBl3e) (h453) (h203) (ho3) (by omega) hP hD hS hl
              · have t_111 : ¬ (hw).toInt < -1 := toI_nlt c_111 rfl (by decide)
                obtain ⟨hI, hhI, hI1, hq1⟩ : ∃ hI : Int, (hw).toInt = hI ∧ (hI = 1 ∨ hI = -1) ∧ hq < 2 := by rcases hh with ⟨h1, h2⟩ | ⟨h1, h2⟩ | ⟨h1, h2⟩; (exact ⟨1, by rw [h2]; decide, Or.inl rfl, by omega⟩); (exact ⟨-1, by rw [h2]; decide, Or.inr rfl, by omega⟩); (exfalso; rw [h2] at t_111; exact absurd t_111 (by decide))
                have hmul := hex (2 * k5 + hq) (by omega)
                have hmul2 : (2 * k5 + hq + 1) * (cc + 1 + 1) ≤ 18 * 42 := Nat.mul_le_mul (by omega) (by omega)
                rw [Nat.succ_mul] at hmul2
                refine lv_aload_n hx hb dX12_addsUp_114 rfl (lv_at hl 0 rfl) ?_
                have hFc := allFree hD hS hA
                refine va_calli (va_runV (As := []) (rest := []) ⟨hx, hb, hml, hown, hts⟩ (r_X12_newLine l dC dI a k h0 (fT (fT (fT vi 5 (nI (cc + 1))) 6 (nI (2 * k5 + hq))) 7 0) vj (fT (fT (fT (fT (fT (fT (fT vF 74 f74x) 0 g3) 4 f456) 6 f656) 2 f23) 3 f33) 5 f53) (fT vG 1 gs3) (cc + 1) (2 * k5 + hq) m3 hB3 (by first | with_reducible assumption | decide | omega | rfl | assumption) (by first | with_reducible assumption | decide | omega | rfl | assumption) (by first | with_reducible assumption | decide | omega | rfl | assumption) (by first | with_reducible assumption | decide | omega | rfl | assumption) (by first | with_reducible assumption | decide | omega | rfl | assumption) (by first | with_reducible assumption | decide | omega | rfl | assumption) H.size) (cwV 0 hts gwsRX12_addsUp_4 rfl rfl rfl hd_yX12_newLine_RX12 (by decide +kernel)) (fz_pre (va_recv hK hP (ci := 12) (q0 := 0) rfl rfl) hP hK hD) rfl rfl hl.1 rfl (lv_room (Nat.le_of_ble_eq_true rfl)) dX12_addsUp_115 (by decide +kernel)) hS (fun q _ h => hFc q h) hFc (fun r115 u t9_ H locs ht hvm hw9 hB9 hz1 hk1 hS => ?_)
                revert u hw9 hB9
                refine fz_p2 ?_
                intro g115 m2115 hw9 hB9
                try dsimp only at hw9 hB9
                have e9i : fT (fT (fT vi 5 (nI (cc + 1))) 6 (nI ((2 * k5 + hq) + 1))) 7 0 = fT (fT (fT (fT vi 5 (nI (cc + 1))) 6 (nI (2 * k5 + hq))) 7 0) 6 (nI ((2 * k5 + hq) + 1)) := ((fT_sw _ _ _ (Nat.ne_of_beq_eq_false rfl)).trans (congrArg (fun g9 => fT g9 7 0) (fT_sm _ _ _ _))).symm
                have e9F : fT (fT (fT (fT (fT (fT (fT vF 74 f74x) 0 g115) 4 f456) 6 f656) 2 f23) 3 f33) 5 (upd f53 (nI (2 * k5 + hq)).toNatClampNeg (nI ((cc + 1) + (2 * k5 + hq)))) = fT (fT (fT (fT (fT (fT (fT (fT (fT vF 74 f74x) 0 g3) 4 f456) 6 f656) 2 f23) 3 f33) 5 f53) 0 g115) 5 (upd f53 (nI (2 * k5 + hq)).toNatClampNeg (nI ((cc + 1) + (2 * k5 + hq)))) := Eq.symm (Eq.trans (congrArg (fun g9 => fT g9 5 (upd f53 (nI (2 * k5 + hq)).toNatClampNeg (nI ((cc + 1) + (2 * k5 + hq))))) (up_5 rfl)) (up_0 rfl))
                have hP := wr_PF e9F (wr_Pi e9i (fz_P ht hB9.1))
                have hD := wr_DF e9F (wr_Di e9i (hB9.2.weaken (fun _ q _ h => hFc q.1 h)))
                clear e9i e9F
                obtain ⟨rfl, f115_0, f115_1, f115_2⟩ := hw9
                refine lv_istore hx hb dX12_addsUp_118 hl (by decide) rfl (fun ls (hl : lv_has ls _ ([(4, .int (nI (2 * k5 + hq))), (0, .ref h0), (2, .int (nI k5)), (3, .int hw)])) => ?_)
                refine lv_iconst (v := 0) hx hb dX12_addsUp_120 (by decide) ?_
                refine lv_istore hx hb dX12_addsUp_121 hl (by decide) rfl (fun ls (hl : lv_has ls _ ([(5, .int 0), (4, .int (nI (2 * k5 + hq))), (0, .ref h0), (2, .int (nI k5)), (3, .int hw)])) => ?_)
                have hl : lv_has _ _ ([(0, .ref h0), (2, .int (nI k5)), (3, .int hw), (4, .int (nI (2 * k5 + hq))), (5, .int (nI 0))]) := lv_sub hl [2, 3, 4, 1, 0] rfl
                refine (fun (loop : ∀ (n9 : Nat) (i6 : Nat) (g4 : Nat → Int32) (m4 : Nat → Int) (H : Heap) (locs : List Loc) (ls : Array Slot), (Bg g4 m4) → (i6 ≤ nd) → (RwB (cc + 1) m4 (2 * k5 + hq) (bcl (ncS (ncw (vF 61) (vF 71) (vF 72) (vF 73)) z))) → (∀ q, (q < 30 + (2 * k5 + hq) * (cc + 1 + 1) ∨ 30 + (2 * k5 + hq) * (cc + 1 + 1) + (cc + 1 - 1) ≤ q) → m4 q = m2115 q) →  (nd < i6 + n9) → va_P (dC, dI) vwCl (WR a k h0 (fT (fT (fT vi 5 (nI (cc + 1))) 6 (nI ((2 * k5 + hq) + 1))) 7 0) vj (fT (fT (fT (fT (fT (fT (fT vF 74 f74x) 0 g4) 4 f456) 6 f656) 2 f23) 3 f33) 5 (upd f53 (nI (2 * k5 + hq)).toNatClampNeg (nI ((cc + 1) + (2 * k5 + hq))))) (fT vG 1 gs3)) H → va_D A (WR a k h0 (fT (fT (fT vi 5 (nI (cc + 1))) 6 (nI ((2 * k5 + hq) + 1))) 7 0) vj (fT (fT (fT (fT (fT (fT (fT vF 74 f74x) 0 g4) 4 f456) 6 f656) 2 f23) 3 f33) 5 (upd f53 (nI (2 * k5 + hq)).toNatClampNeg (nI ((cc + 1) + (2 * k5 + hq))))) (fT vG 1 gs3)) → va_S A s.heap H locs → lv_has ls 6 [(0, .ref h0), (2, .int (nI k5)), (3, .int hw), (4, .int (nI (2 * k5 + hq))), (5, .int (nI i6))] → W p l e _ s m _ below meth c H locs 0 0 _ (F0 m 123 ls [])) => loop (nd + 1) 0 g115 m2115 _ _ _ (f115_0) (by omega) (fun j hj => by rw [f115_1 j (by omega), if_neg (by omega)]; exact Nat.zero_le _) (fun q _ => rfl) (by omega) hP hD hS hl) ?_
                intro n9
                induction n9 with
                | zero => intro i6 g4 m4 H locs ls hB4 hi6 hrw hfr hf9; exact False.elim (by omega)
                | succ n9 ih123_6 =>
                  intro i6 g4 m4 H locs ls hB4 hi6 hrw hfr hf123_6 hP hD hS hl
                  refine lv_iload hx hb dX12_addsUp_123 (lv_at hl 4 rfl) ?_
                  refine lv_aload_n hx hb dX12_addsUp_125 rfl (lv_at hl 0 rfl) ?_
                  refine va_get (D := (dC, dI)) (ci := 12) (v := .int (vi 119)) (C := RX12) (T := TX12) (N := 163) (fs := fM (vS a (fT (fT (fT vi 5 (nI (cc + 1))) 6 (nI ((2 * k5 + hq) + 1))) 7 0) vj)) hx hb hts iwsRX12_addsUp_in12 hown hK hP 0 rfl rfl 119 (by decide) (hts _ hm_r_X12_addsUp_0) (fun _ h9 => h9) rfl dX12_addsUp_126 ?_
                  refine lv_topi (fun y12 hy12 => ?_)
                  obtain rfl : (nI nd) = y12 := (hy12.trans (hnd)).symm
                  refine lv_icmp_ge (tgt := 154) hx hb dX12_addsUp_129 (by decide) (fun c_129 => ?_) (fun c_129 => ?_)
                  · have t_129 : ((i6 : Nat) : Int) ≥ ((nd : Nat) : Int) := toI_ge c_129 (nI_toInt (by omega)) (nI_toInt (by omega))
                    have e45 : m4 1045 = mS 19 := ((hfr 1045 (by omega)).trans (f115_2 1045 (by omega))).trans h453
                    refine lv_aload_n hx hb dX12_addsUp_154 rfl (lv_at hl 0 rfl) ?_
                    refine lv_bipush (v := 17) hx hb dX12_addsUp_155 (by decide) ?_
                    refine lv_lconst (v := 0) hx hb dX12_addsUp_157 (by decide) ?_
                    have hFc := allFree hD hS hA
                    refine va_callv (va_runV (As := [.int 17, .long 0]) (rest := []) ⟨hx, hb, hml, hown, hts⟩ (b_X12_put l dC dI a k h0 (fT (fT (fT vi 5 (nI (cc + 1))) 6 (nI ((2 * k5 + hq) + 1))) 7 0) vj (fT (fT (fT (fT (fT (fT (fT vF 74 f74x) 0 g4) 4 f456) 6 f656) 2 f23) 3 f33) 5 (upd f53 (nI (2 * k5 + hq)).toNatClampNeg (nI ((cc + 1) + (2 * k5 + hq))))) (fT vG 1 gs3) 17 0 0 m4 hB4 (by first | with_reducible assumption | decide | omega | rfl | assumption) (by decide) (by first | with_reducible assumption | decide | omega | rfl | assumption) H.size) (cwV 2 hts gwsRX12_addsUp_1 rfl rfl rfl hd_yX12_put_RX12 (by decide +kernel)) (fz_pre (va_recv hK hP (ci := 12) (q0 := 0) rfl rfl) hP hK hD) rfl rfl hl.1 rfl (lv_room (Nat.le_of_ble_eq_true rfl)) dX12_addsUp_158 (by decide +kernel)) hS (fun q _ h => hFc q h) hFc (fun g158 t9_ H locs ht hvm hw9 hB9 hz1 hk1 hS => ?_)
                    have e9F : fT (fT (fT (fT (fT (fT (fT vF 74 f74x) 0 g158) 4 f456) 6 f656) 2 f23) 3 f33) 5 (upd f53 (nI (2 * k5 + hq)).toNatClampNeg (nI ((cc + 1) + (2 * k5 + hq)))) = fT (fT (fT (fT (fT (fT (fT (fT vF 74 f74x) 0 g4) 4 f456) 6 f656) 2 f23) 3 f33) 5 (upd f53 (nI (2 * k5 + hq)).toNatClampNeg (nI ((cc + 1) + (2 * k5 + hq))))) 0 g158 := Eq.symm (up_5 rfl)
                    have hP := wr_PF e9F (fz_P ht hB9.1)
                    have hD := wr_DF e9F (hB9.2.weaken (fun _ q _ h => hFc q.1 h))
                    clear e9F
                    have f158_0 := hw9
                    try dsimp only at f158_0
                    refine lv_aload_n hx hb dX12_addsUp_161 rfl (lv_at hl 0 rfl) ?_
                    refine lv_bipush (v := 19) hx hb dX12_addsUp_162 (by decide) ?_
                    refine lv_sipush (v := 1045) hx hb dX12_addsUp_164 (by decide) ?_
                    have hFc := allFree hD hS hA
                    refine va_callv (va_runV (As := [.int 19, .int 1045]) (rest := []) ⟨hx, hb, hml, hown, hts⟩ (b_X12_copy l dC dI a k h0 (fT (fT (fT vi 5 (nI (cc + 1))) 6 (nI ((2 * k5 + hq) + 1))) 7 0) vj (fT (fT (fT (fT (fT (fT (fT vF 74 f74x) 0 g158) 4 f456) 6 f656) 2 f23) 3 f33) 5 (upd f53 (nI (2 * k5 + hq)).toNatClampNeg (nI ((cc + 1) + (2 * k5 + hq))))) (fT vG 1 gs3) 19 1045 (fT m4 17 0) f158_0 (m4 1045) (by rw [fT_ne _ _ (by omega)]) (by first | with_reducible assumption | decide | omega | rfl | assumption) (by first | with_reducible assumption | decide | omega | rfl | assumption) (by first | with_reducible assumption | decide | omega | rfl | assumption) H.size) (cwV 2 hts gwsRX12_addsUp_3 rfl rfl rfl hd_yX12_copy_RX12 (by decide +kernel)) (fz_pre (va_recv hK hP (ci := 12) (q0 := 0) rfl rfl) hP hK hD) rfl rfl hl.1 rfl (lv_room (Nat.le_of_ble_eq_true rfl)) dX12_addsUp_167 (by decide +kernel)) hS (fun q _ h => hFc q h) hFc (fun g167 t9_ H locs ht hvm hw9 hB9 hz1 hk1 hS => ?_)
                    have e9F : fT (fT (fT (fT (fT (fT (fT vF 74 f74x) 0 g167) 4 f456) 6 f656) 2 f23) 3 f33) 5 (upd f53 (nI (2 * k5 + hq)).toNatClampNeg (nI ((cc + 1) + (2 * k5 + hq)))) = fT (fT (fT (fT (fT (fT (fT (fT vF 74 f74x) 0 g158) 4 f456) 6 f656) 2 f23) 3 f33) 5 (upd f53 (nI (2 * k5 + hq)).toNatClampNeg (nI ((cc + 1) + (2 * k5 + hq))))) 0 g167 := Eq.symm (up_5 rfl)
                    have hP := wr_PF e9F (fz_P ht hB9.1)
                    have hD := wr_DF e9F (hB9.2.weaken (fun _ q _ h => hFc q.1 h))
                    clear e9F
                    have f167_0 := hw9
                    try dsimp only at f167_0
                    refine lv_aload_n hx hb dX12_addsUp_170 rfl (lv_at hl 0 rfl) ?_
                    refine va_get (D := (dC, dI)) (ci := 12) (v := .int (vi 118)) (C := RX12) (T := TX12) (N := 163) (fs := fM (vS a (fT (fT (fT vi 5 (nI (cc + 1))) 6 (nI ((2 * k5 + hq) + 1))) 7 0) vj)) hx hb hts iwsRX12_addsUp_in12 hown hK hP 0 rfl rfl 118 (by decide) (hts _ hm_r_X12_addsUp_1) (fun _ h9 => h9) rfl dX12_addsUp_171 ?_
                    refine W.cut (pc := 192) (fun H locs ls stk => ∃ (gJ : Nat → Int32) (f2J : Nat → Int32) (f3J : Nat → Int32) (gsJ : Nat → Int64) (mJ : Nat → Int), (Bg gJ mJ) ∧ ((mJ 17).natAbs ≤ Bs) ∧ (∀ q, 19 < q → mJ q = m4 q) ∧  stk = [] ∧ va_P (dC, dI) vwCl (WR a k h0 (fT (fT (fT vi 5 (nI (cc + 1))) 6 (nI ((2 * k5 + hq) + 1))) 7 0) vj (fT (fT (fT (fT (fT (fT (fT vF 74 f74x) 0 gJ) 4 f456) 6 f656) 2 f2J) 3 f3J) 5 (upd f53 (nI (2 * k5 + hq)).toNatClampNeg (nI ((cc + 1) + (2 * k5 + hq))))) (fT vG 1 gsJ)) H ∧ va_D A (WR a k h0 (fT (fT (fT vi 5 (nI (cc + 1))) 6 (nI ((2 * k5 + hq) + 1))) 7 0) vj (fT (fT (fT (fT (fT (fT (fT vF 74 f74x) 0 gJ) 4 f456) 6 f656) 2 f2J) 3 f3J) 5 (upd f53 (nI (2 * k5 + hq)).toNatClampNeg (nI ((cc + 1) + (2 * k5 + hq))))) (fT vG 1 gsJ)) ∧ va_S A s.heap H locs ∧ lv_has ls 6 [(0, .ref h0), (2, .int (nI k5)), (3, .int hw), (4, .int (nI (2 * k5 + hq)))]) (fun join4 => ?_) ?_
                    · refine lv_if_ne (tgt := 192) hx hb dX12_addsUp_174 (by decide) (fun c_174 => ?_) (fun c_174 => ?_)
                      · have t_174 : ((vi 118)).toInt ≠ 0 := toI_ne c_174 rfl (by decide)
                        have hl : lv_has _ _ ([(0, .ref h0), (2, .int (nI k5)), (3, .int hw), (4, .int (nI (2 * k5 + hq)))]) := lv_sub hl [0, 1, 2, 3] rfl
                        exact join4 _ _ _ _ ⟨g167, f23, f33, gs3, (fT (fT m4 17 0) 19 (m4 1045)), f167_0, by (have e9 : (fT (fT m4 17 0) 19 (m4 1045)) 17 = 0 := (by rw [fT_ne _ _ (by omega), fT_eq])); rw [e9]; exact Nat.zero_le _, fun q hq => by (rw [fT_ne _ _ (by omega), fT_ne _ _ (by omega)]), rfl, hP, hD, hS, hl⟩
                      · have t_174 : ((vi 118)).toInt = 0 := toI_nne c_174 rfl (by decide)
                        refine lv_aload_n hx hb dX12_addsUp_177 rfl (lv_at hl 0 rfl) ?_
                        refine va_get (D := (dC, dI)) (ci := 12) (v := .int (vi 93)) (C := RX12) (T := TX12) (N := 163) (fs := fM (vS a (fT (fT (fT vi 5 (nI (cc + 1))) 6 (nI ((2 * k5 + hq) + 1))) 7 0) vj)) hx hb hts iwsRX12_addsUp_in12 hown hK hP 0 rfl rfl 93 (by decide) (hts _ hm_r_X12_addsUp_2) (fun _ h9 => h9) rfl dX12_addsUp_178 ?_
                        refine lv_topi (fun y13 hy13 => ?_)
                        obtain rfl : (nI gq) = y13 := (hy13.trans (hmg)).symm
                        refine lv_if_le (tgt := 192) hx hb dX12_addsUp_181 (by decide) (fun c_181 => ?_) (fun c_181 => ?_)
                        · have t_181 : ((gq : Nat) : Int) ≤ 0 := toI_le c_181 (nI_toInt (by omega)) (by decide)
                          have hl : lv_has _ _ ([(0, .ref h0), (2, .int (nI k5)), (3, .int hw), (4, .int (nI (2 * k5 + hq)))]) := lv_sub hl [0, 1, 2, 3] rfl
                          exact join4 _ _ _ _ ⟨g167, f23, f33, gs3, (fT (fT m4 17 0) 19 (m4 1045)), f167_0, by (have e9 : (fT (fT m4 17 0) 19 (m4 1045)) 17 = 0 := (by rw [fT_ne _ _ (by omega), fT_eq])); rw [e9]; exact Nat.zero_le _, fun q hq => by (rw [fT_ne _ _ (by omega), fT_ne _ _ (by omega)]), rfl, hP, hD, hS, hl⟩
                        · have t_181 : ¬ ((gq : Nat) : Int) ≤ 0 := toI_nle c_181 (nI_toInt (by omega)) (by decide)
                          refine lv_aload_n hx hb dX12_addsUp_184 rfl (lv_at hl 0 rfl) ?_
                          refine lv_iconst (v := 0) hx hb dX12_addsUp_185 (by decide) ?_
                          refine lv_iload_n hx hb dX12_addsUp_186 rfl (lv_at hl 1 rfl) ?_
                          refine lv_iconst (v := 1) hx hb dX12_addsUp_187 (by decide) ?_
                          refine lv_iadd hx hb dX12_addsUp_188 ?_
                          refine lv_topi (fun y14 hy14 => ?_)
                          obtain rfl : (nI (k5 + 1)) = y14 := (hy14.trans (nI_add k5 1)).symm
                          have hFc := allFree hD hS hA
                          refine va_callv (va_runV (As := [.int 0, .int (nI (k5 + 1))]) (rest := []) ⟨hx, hb, hml, hown, hts⟩ (r_X12_goalNumber l dC dI a k h0 (fT (fT (fT vi 5 (nI (cc + 1))) 6 (nI ((2 * k5 + hq) + 1))) 7 0) vj (fT (fT (fT (fT (fT (fT (fT vF 74 f74x) 0 g167) 4 f456) 6 f656) 2 f23) 3 f33) 5 (upd f53 (nI (2 * k5 + hq)).toNatClampNeg (nI ((cc + 1) + (2 * k5 + hq))))) (fT vG 1 gs3) 0 (k5 + 1) gq (fT (fT m4 17 0) 19 (m4 1045)) f167_0 (m4 1045) (by rw [fT_eq]) (by omega) (by first | with_reducible assumption | decide | omega | rfl | assumption) (by first | with_reducible assumption | decide | omega | rfl | assumption) (by first | with_reducible assumption | decide | omega | rfl | assumption) (by rw [e45]; exact h19b) H.size) (cwV 2 hts gwsRX12_addsUp_14 rfl rfl rfl hd_yX12_goalNumber_RX12 (by decide +kernel)) (fz_pre (va_recv hK hP (ci := 12) (q0 := 0) rfl rfl) hP hK hD) rfl rfl hl.1 rfl (lv_room (Nat.le_of_ble_eq_true rfl)) dX12_addsUp_189 (by decide +kernel)) hS (fun q _ h => hFc q h) hFc (fun u t9_ H locs ht hvm hw9 hB9 hz1 hk1 hS => ?_)
                          revert u hw9 hB9
                          refine fz_p5 ?_
                          intro g189 f2w189 f3w189 gs189 m2189 hw9 hB9
                          try dsimp only at hw9 hB9
                          have e9F : fT (fT (fT (fT (fT (fT (fT vF 74 f74x) 0 g189) 4 f456) 6 f656) 2 f2w189) 3 f3w189) 5 (upd f53 (nI (2 * k5 + hq)).toNatClampNeg (nI ((cc + 1) + (2 * k5 + hq)))) = fT (fT (fT (fT (fT (fT (fT (fT (fT (fT vF 74 f74x) 0 g167) 4 f456) 6 f656) 2 f23) 3 f33) 5 (upd f53 (nI (2 * k5 + hq)).toNatClampNeg (nI ((cc + 1) + (2 * k5 + hq))))) 0 g189) 2 f2w189) 3 f3w189 := Eq.symm (Eq.trans (congrArg (fun g9 => fT g9 3 f3w189) (Eq.trans (congrArg (fun g9 => fT g9 2 f2w189) (up_5 rfl)) (up_2 rfl))) (up_1 rfl))
                          have e9G : fT vG 1 gs189 = fT (fT vG 1 gs3) 1 gs189 := (fT_sm _ _ _ _).symm
                          have hP := wr_PG e9G (wr_PF e9F (fz_P ht hB9.1))
                          have hD := wr_DG e9G (wr_DF e9F (hB9.2.weaken (fun _ q _ h => hFc q.1 h)))
                          clear e9F e9G
                          revert hw9
                          refine fz_a4 ?_
                          intro f189_0 f189_1 f189_2 f189_3
                          have hl : lv_has _ _ ([(0, .ref h0), (2, .int (nI k5)), (3, .int hw), (4, .int (nI (2 * k5 + hq)))]) := lv_sub hl [0, 1, 2, 3] rfl
                          exact join4 _ _ _ _ ⟨g189, f2w189, f3w189, gs189, m2189, f189_0, by rw [hBs, if_pos c_174]; exact Nat.le_of_lt (gn_bd1 (by rw [e45]; exact h19b) f189_2), fun q hq => by (rw [f189_3 _ (by omega), fT_ne _ _ (by omega), fT_ne _ _ (by omega)]), rfl, hP, hD, hS, hl⟩
                    · rintro H locs ls stk ⟨gJ, f2J, f3J, gsJ, mJ, hBJ, h17b, hfJ, rfl, hP, hD, hS, hl⟩
                      refine lv_aload_n hx hb dX12_addsUp_192 rfl (lv_at hl 0 rfl) ?_
                      refine lv_aload_n hx hb dX12_addsUp_193 rfl (lv_at hl 0 rfl) ?_
                      refine lv_iload hx hb dX12_addsUp_194 (lv_at hl 3 rfl) ?_
                      refine lv_aload_n hx hb dX12_addsUp_196 rfl (lv_at hl 0 rfl) ?_
                      refine va_get (D := (dC, dI)) (ci := 12) (v := .int (nI (cc + 1))) (C := RX12) (T := TX12) (N := 163) (fs := fM (vS a (fT (fT (fT vi 5 (nI (cc + 1))) 6 (nI ((2 * k5 + hq) + 1))) 7 0) vj)) hx hb hts iwsRX12_addsUp_in12 hown hK hP 0 rfl rfl 5 (by decide) (hts _ hm_r_X12_addsUp_3) (fun _ h9 => h9) rfl dX12_addsUp_197 ?_
                      have hFc := allFree hD hS hA
                      refine va_calli (va_runV (As := [.int (nI (2 * k5 + hq)), .int (nI (cc + 1))]) (rest := [.ref h0]) ⟨hx, hb, hml, hown, hts⟩ (r_X12_at l dC dI a k h0 (fT (fT (fT vi 5 (nI (cc + 1))) 6 (nI ((2 * k5 + hq) + 1))) 7 0) vj (fT (fT (fT (fT (fT (fT (fT vF 74 f74x) 0 gJ) 4 f456) 6 f656) 2 f2J) 3 f3J) 5 (upd f53 (nI (2 * k5 + hq)).toNatClampNeg (nI ((cc + 1) + (2 * k5 + hq))))) (fT vG 1 gsJ) (2 * k5 + hq) (cc + 1) (cc + 1) (by first | with_reducible assumption | decide | omega | rfl | assumption) H.size) (cwV 2 hts gwsRX12_addsUp_5 rfl rfl rfl hd_yX12_at_RX12 (by decide +kernel)) (fz_pre (va_recv hK hP (ci := 12) (q0 := 0) rfl rfl) hP hK hD) rfl rfl hl.1 rfl (lv_room (Nat.le_of_ble_eq_true rfl)) dX12_addsUp_200 (by decide +kernel)) hS (fun q _ h => hFc q h) hFc (fun r200 u t9_ H locs ht hvm hw9 hB9 hz1 hk1 hS => ?_)
                      have hP : va_P (dC, dI) vwCl (WR a k h0 (fT (fT (fT vi 5 (nI (cc + 1))) 6 (nI ((2 * k5 + hq) + 1))) 7 0) vj (fT (fT (fT (fT (fT (fT (fT vF 74 f74x) 0 gJ) 4 f456) 6 f656) 2 f2J) 3 f3J) 5 (upd f53 (nI (2 * k5 + hq)).toNatClampNeg (nI ((cc + 1) + (2 * k5 + hq))))) (fT vG 1 gsJ)) H := fz_P ht hB9.1
                      have hD := fz_sd hP (hB9.2.weaken (fun _ q _ h => hFc q.1 h)) rfl
                      obtain rfl := hw9
                      refine lv_bipush (v := 17) hx hb dX12_addsUp_203 (by decide) ?_
                      have hFc := allFree hD hS hA
                      refine va_callv (va_runV (As := [.int (nI (30 + (2 * k5 + hq) * ((cc + 1) + 1) + (cc + 1))), .int 17]) (rest := []) ⟨hx, hb, hml, hown, hts⟩ (b_X12_copy l dC dI a k h0 (fT (fT (fT vi 5 (nI (cc + 1))) 6 (nI ((2 * k5 + hq) + 1))) 7 0) vj (fT (fT (fT (fT (fT (fT (fT vF 74 f74x) 0 gJ) 4 f456) 6 f656) 2 f2J) 3 f3J) 5 (upd f53 (nI (2 * k5 + hq)).toNatClampNeg (nI ((cc + 1) + (2 * k5 + hq))))) (fT vG 1 gsJ) (30 + (2 * k5 + hq) * ((cc + 1) + 1) + (cc + 1)) 17 mJ hBJ (mJ 17) rfl (by first | with_reducible assumption | decide | omega | rfl | assumption) (by first | with_reducible assumption | decide | omega | rfl | assumption) (by first | with_reducible assumption | decide | omega | rfl | assumption) H.size) (cwV 2 hts gwsRX12_addsUp_3 rfl rfl rfl hd_yX12_copy_RX12 (by decide +kernel)) (fz_pre (va_recv hK hP (ci := 12) (q0 := 0) rfl rfl) hP hK hD) rfl rfl hl.1 rfl (lv_room (Nat.le_of_ble_eq_true rfl)) dX12_addsUp_205 (by decide +kernel)) hS (fun q _ h => hFc q h) hFc (fun g205 t9_ H locs ht hvm hw9 hB9 hz1 hk1 hS => ?_)
                      have e9F : fT (fT (fT (fT (fT (fT (fT vF 74 f74x) 0 g205) 4 f456) 6 f656) 2 f2J) 3 f3J) 5 (upd f53 (nI (2 * k5 + hq)).toNatClampNeg (nI ((cc + 1) + (2 * k5 + hq)))) = fT (fT (fT (fT (fT (fT (fT (fT vF 74 f74x) 0 gJ) 4 f456) 6 f656) 2 f2J) 3 f3J) 5 (upd f53 (nI (2 * k5 + hq)).toNatClampNeg (nI ((cc + 1) + (2 * k5 + hq))))) 0 g205 := Eq.symm (up_5 rfl)
                      have hP := wr_PF e9F (fz_P ht hB9.1)
                      have hD := wr_DF e9F (hB9.2.weaken (fun _ q _ h => hFc q.1 h))
                      clear e9F
                      have f205_0 := hw9
                      try dsimp only at f205_0
                      refine lv_iload_n hx hb dX12_addsUp_208 rfl (lv_at hl 2 rfl) ?_
                      refine lv_aload_n hx hb dX12_addsUp_209 rfl (lv_at hl 0 rfl) ?_
                      refine va_get (D := (dC, dI)) (ci := 12) (v := .int (vi 118)) (C := RX12) (T := TX12) (N := 163) (fs := fM (vS a (fT (fT (fT vi 5 (nI (cc + 1))) 6 (nI ((2 * k5 + hq) + 1))) 7 0) vj)) hx hb hts iwsRX12_addsUp_in12 hown hK hP 0 rfl rfl 118 (by decide) (hts _ hm_r_X12_addsUp_1) (fun _ h9 => h9) rfl dX12_addsUp_210 ?_
                      refine W.cut (pc := 237) (fun H locs ls stk => ∃ (s9 : Int32),  stk = [.int s9, .int hw] ∧ va_P (dC, dI) vwCl (WR a k h0 (fT (fT (fT vi 5 (nI (cc + 1))) 6 (nI ((2 * k5 + hq) + 1))) 7 0) vj (fT (fT (fT (fT (fT (fT (fT vF 74 f74x) 0 g205) 4 f456) 6 f656) 2 f2J) 3 f3J) 5 (upd f53 (nI (2 * k5 + hq)).toNatClampNeg (nI ((cc + 1) + (2 * k5 + hq))))) (fT vG 1 gsJ)) H ∧ va_D A (WR a k h0 (fT (fT (fT vi 5 (nI (cc + 1))) 6 (nI ((2 * k5 + hq) + 1))) 7 0) vj (fT (fT (fT (fT (fT (fT (fT vF 74 f74x) 0 g205) 4 f456) 6 f656) 2 f2J) 3 f3J) 5 (upd f53 (nI (2 * k5 + hq)).toNatClampNeg (nI ((cc + 1) + (2 * k5 + hq))))) (fT vG 1 gsJ)) ∧ va_S A s.heap H locs ∧ lv_has ls 6 [(0, .ref h0), (2, .int (nI k5)), (3, .int hw), (4, .int (nI (2 * k5 + hq)))]) (fun join5 => ?_) ?_
                      · refine lv_if_ne (tgt := 232) hx hb dX12_addsUp_213 (by decide) (fun c_213 => ?_) (fun c_213 => ?_)
                        · have t_213 : ((vi 118)).toInt ≠ 0 := toI_ne c_213 rfl (by decide)
                          refine lv_iconst (v := 1) hx hb dX12_addsUp_232 (by decide) ?_
                          refine lv_goto (tgt := 237) hx hb dX12_addsUp_233 (by decide) ?_
                          have hl : lv_has _ _ ([(0, .ref h0), (2, .int (nI k5)), (3, .int hw), (4, .int (nI (2 * k5 + hq)))]) := lv_sub hl [0, 1, 2, 3] rfl
                          exact join5 _ _ _ _ ⟨1, rfl, hP, hD, hS, hl⟩
                        · have t_213 : ((vi 118)).toInt = 0 := toI_nne c_213 rfl (by decide)
                          refine lv_aload_n hx hb dX12_addsUp_216 rfl (lv_at hl 0 rfl) ?_
                          refine va_get (D := (dC, dI)) (ci := 12) (v := .int (vi 93)) (C := RX12) (T := TX12) (N := 163) (fs := fM (vS a (fT (fT (fT vi 5 (nI (cc + 1))) 6 (nI ((2 * k5 + hq) + 1))) 7 0) vj)) hx hb hts iwsRX12_addsUp_in12 hown hK hP 0 rfl rfl 93 (by decide) (hts _ hm_r_X12_addsUp_2) (fun _ h9 => h9) rfl dX12_addsUp_217 ?_
                          refine lv_topi (fun y15 hy15 => ?_)
                          obtain rfl : (nI gq) = y15 := (hy15.trans (hmg)).symm
                          refine lv_if_eq (tgt := 232) hx hb dX12_addsUp_220 (by decide) (fun c_220 => ?_) (fun c_220 => ?_)
                          · have t_220 : ((gq : Nat) : Int) = 0 := toI_eq c_220 (nI_toInt (by omega)) (by decide)
                            refine lv_iconst (v := 1) hx hb dX12_addsUp_232 (by decide) ?_
                            refine lv_goto (tgt := 237) hx hb dX12_addsUp_233 (by decide) ?_
                            have hl : lv_has _ _ ([(0, .ref h0), (2, .int (nI k5)), (3, .int hw), (4, .int (nI (2 * k5 + hq)))]) := lv_sub hl [0, 1, 2, 3] rfl
                            exact join5 _ _ _ _ ⟨1, rfl, hP, hD, hS, hl⟩
                          · have t_220 : ¬ ((gq : Nat) : Int) = 0 := toI_neq c_220 (nI_toInt (by omega)) (by decide)
                            refine lv_aload_n hx hb dX12_addsUp_223 rfl (lv_at hl 0 rfl) ?_
                            refine va_get (D := (dC, dI)) (ci := 12) (v := .ref (a 65)) (C := RX12) (T := TX12) (N := 163) (fs := fM (vS a (fT (fT (fT vi 5 (nI (cc + 1))) 6 (nI ((2 * k5 + hq) + 1))) 7 0) vj)) hx hb hts iwsRX12_addsUp_in12 hown hK hP 0 rfl rfl 105 (by decide) (hts (.fieldLink RX12 218 "OptimaWorksModel" "goalMax" "[I") (by decide +kernel)) (fun _ h9 => h9) rfl dX12_addsUp_224 ?_
                            refine lv_iconst (v := 0) hx hb dX12_addsUp_227 (by decide) ?_
                            refine va_iald (cA := k 65) (n := 3) (f := (vF 65)) hx hb hK hP 66 65 (WR_get 65 (by decide)) (TR_get 65 (by decide)) (show ¬ ((0 : Int32) < 0 ∨ 3 ≤ (0 : Int32).toNatClampNeg) by decide) dX12_addsUp_228 ?_
                            refine lv_topi (fun y16 hy16 => ?_)
                            obtain rfl : ((vF 65) 0) = y16 := (hy16.trans (rfl)).symm
                            refine lv_if_ne (tgt := 236) hx hb dX12_addsUp_229 (by decide) (fun c_229 => ?_) (fun c_229 => ?_)
                            · have t_229 : (((vF 65) 0)).toInt ≠ 0 := toI_ne c_229 rfl (by decide)
                              refine lv_iconst (v := (-1)) hx hb dX12_addsUp_236 (by decide) ?_
                              have hl : lv_has _ _ ([(0, .ref h0), (2, .int (nI k5)), (3, .int hw), (4, .int (nI (2 * k5 + hq)))]) := lv_sub hl [0, 1, 2, 3] rfl
                              exact join5 _ _ _ _ ⟨(-1), rfl, hP, hD, hS, hl⟩
                            · have t_229 : (((vF 65) 0)).toInt = 0 := toI_nne c_229 rfl (by decide)
                              refine lv_iconst (v := 1) hx hb dX12_addsUp_232 (by decide) ?_
                              refine lv_goto (tgt := 237) hx hb dX12_addsUp_233 (by decide) ?_
                              have hl : lv_has _ _ ([(0, .ref h0), (2, .int (nI k5)), (3, .int hw), (4, .int (nI (2 * k5 + hq)))]) := lv_sub hl [0, 1, 2, 3] rfl
                              exact join5 _ _ _ _ ⟨1, rfl, hP, hD, hS, hl⟩
                      · rintro H locs ls stk ⟨s9, rfl, hP, hD, hS, hl⟩
                        refine lv_imul hx hb dX12_addsUp_237 ?_
                        refine lv_if_ge (tgt := 255) hx hb dX12_addsUp_238 (by decide) (fun c_238 => ?_) (fun c_238 => ?_)
                        · have t_238 : ((hw * s9)).toInt ≥ 0 := toI_ge c_238 rfl (by decide)
                          have hBl9 : BldP (cc + 1) (2 * k5 + hq + 1) (fT mJ (30 + (2 * k5 + hq) * ((cc + 1) + 1) + (cc + 1)) (mJ 17)) (upd f53 (nI (2 * k5 + hq)).toNatClampNeg (nI (cc + 1 + (2 * k5 + hq)))) (bcl (ncS (ncw (vF 61) (vF 71) (vF 72) (vF 73)) z)) Bs := hBl3.more (fun i2 hi2 => by rw [upd_at (by omega), if_neg (by omega)]) (fun p h1 h2 => by (rw [fT_ne _ _ (by omega)]); rw [hfJ _ (by omega), hfr _ (by omega), f115_2 _ (by omega)]) (by omega) (by rw [upd_at (by omega), if_pos rfl]) (fun j hj => by (rw [fT_ne _ _ (by omega)]); rw [hfJ _ (by omega)]; exact hrw j hj) (by (rw [fT_ne _ _ (by omega)]); rw [hfJ _ (by omega), hfr _ (by omega), f115_1 (cc + 1 - 1) (by omega), if_pos rfl]) (by rw [fT_eq]; exact h17b)
                          have h459 : (fT mJ (30 + (2 * k5 + hq) * ((cc + 1) + 1) + (cc + 1)) (mJ 17)) 1045 = mS 19 := by (rw [fT_ne _ _ (by omega)]); rw [hfJ _ (by omega)]; exact e45
                          have h209 : (fT mJ (30 + (2 * k5 + hq) * ((cc + 1) + 1) + (cc + 1)) (mJ 17)) 20 = 1 := by (rw [fT_ne _ _ (by omega)]); rw [hfJ _ (by omega), hfr _ (by omega), f115_2 _ (by omega)]; exact h203
                          have ho9 : ∀ q, 1000 ≤ q → q ≠ 1045 → (fT mJ (30 + (2 * k5 + hq) * ((cc + 1) + 1) + (cc + 1)) (mJ 17)) q = mg q := fun q h1 h2 => by (rw [fT_ne _ _ (by omega)]); rw [hfJ _ (by omega), hfr _ (by omega), f115_2 _ (by omega)]; exact ho3 q h1 h2
                          refine lv_iinc (v := (hw + (-2))) hx hb dX12_addsUp_255 hl (k := 2) rfl rfl (by decide) rfl (fun ls (hl : lv_has ls _ ([(3, .int (hw + (-2))), (0, .ref h0), (2, .int (nI k5)), (4, .int (nI (2 * k5 + hq)))])) => ?_)
                          refine lv_goto (tgt := 109) hx hb dX12_addsUp_258 (by decide) ?_
                          have e9 : fT (fT (fT vi 5 (nI (cc + 1))) 6 (nI (2 * k5 + (hq + 1)))) 7 0 = fT (fT (fT vi 5 (nI (cc + 1))) 6 (nI ((2 * k5 + hq) + 1))) 7 0 := Eq.trans (mv_1 rfl) (Eq.trans (congrArg (fT _ 6) (show nI (2 * k5 + (hq + 1)) = nI ((2 * k5 + hq) + 1) from (by first | with_reducible rfl | with_reducible assumption | (symm; with_reducible assumption) | rfl | assumption | (symm; assumption) | (subst_vars; rfl)))) (mv_1 rfl))
                          have hP := wr_Pi e9 hP
                          have hD := wr_Di e9 hD
                          clear e9
                          have hl : lv_has _ _ ([(0, .ref h0), (2, .int (nI k5)), (3, .int (hw + (-2)))]) := lv_sub hl [1, 2, 0] rfl
                          exact ih109_5 (hw + (-2)) (hq + 1) g205 f2J f3J (upd f53 (nI (2 * k5 + hq)).toNatClampNeg (nI ((cc + 1) + (2 * k5 + hq)))) gsJ (fT mJ (30 + (2 * k5 + hq) * ((cc + 1) + 1) + (cc + 1)) (mJ 17)) _ _ _ (f205_0) (by rcases hh with ⟨h1, h2⟩ | ⟨h1, h2⟩ | ⟨h1, h2⟩; (exact Or.inr (Or.inl ⟨by omega, by rw [h2]; decide⟩)); (exact Or.inr (Or.inr ⟨by omega, by rw [h2]; decide⟩)); (omega)) (hBl9) (h459) (h209) (ho9) (by omega) hP hD hS hl
                        · have t_238 : ¬ ((hw * s9)).toInt ≥ 0 := toI_nge c_238 rfl (by decide)
                          refine lv_aload_n hx hb dX12_addsUp_241 rfl (lv_at hl 0 rfl) ?_
                          refine lv_aload_n hx hb dX12_addsUp_242 rfl (lv_at hl 0 rfl) ?_
                          refine lv_iload hx hb dX12_addsUp_243 (lv_at hl 3 rfl) ?_
                          refine lv_aload_n hx hb dX12_addsUp_245 rfl (lv_at hl 0 rfl) ?_
                          refine va_get (D := (dC, dI)) (ci := 12) (v := .int (nI (cc + 1))) (C := RX12) (T := TX12) (N := 163) (fs := fM (vS a (fT (fT (fT vi 5 (nI (cc + 1))) 6 (nI ((2 * k5 + hq) + 1))) 7 0) vj)) hx hb hts iwsRX12_addsUp_in12 hown hK hP 0 rfl rfl 5 (by decide) (hts _ hm_r_X12_addsUp_3) (fun _ h9 => h9) rfl dX12_addsUp_246 ?_
                          have hFc := allFree hD hS hA
                          refine va_calli (va_runV (As := [.int (nI (2 * k5 + hq)), .int (nI (cc + 1))]) (rest := [.ref h0]) ⟨hx, hb, hml, hown, hts⟩ (r_X12_at l dC dI a k h0 (fT (fT (fT vi 5 (nI (cc + 1))) 6 (nI ((2 * k5 + hq) + 1))) 7 0) vj (fT (fT (fT (fT (fT (fT (fT vF 74 f74x) 0 g205) 4 f456) 6 f656) 2 f2J) 3 f3J) 5 (upd f53 (nI (2 * k5 + hq)).toNatClampNeg (nI ((cc + 1) + (2 * k5 + hq))))) (fT vG 1 gsJ) (2 * k5 + hq) (cc + 1) (cc + 1) (by first | with_reducible assumption | decide | omega | rfl | assumption) H.size) (cwV 2 hts gwsRX12_addsUp_5 rfl rfl rfl hd_yX12_at_RX12 (by decide +kernel)) (fz_pre (va_recv hK hP (ci := 12) (q0 := 0) rfl rfl) hP hK hD) rfl rfl hl.1 rfl (lv_room (Nat.le_of_ble_eq_true rfl)) dX12_addsUp_249 (by decide +kernel)) hS (fun q _ h => hFc q h) hFc (fun r249 u t9_ H locs ht hvm hw9 hB9 hz1 hk1 hS => ?_)
                          have hP : va_P (dC, dI) vwCl (WR a k h0 (fT (fT (fT vi 5 (nI (cc + 1))) 6 (nI ((2 * k5 + hq) + 1))) 7 0) vj (fT (fT (fT (fT (fT (fT (fT vF 74 f74x) 0 g205) 4 f456) 6 f656) 2 f2J) 3 f3J) 5 (upd f53 (nI (2 * k5 + hq)).toNatClampNeg (nI ((cc + 1) + (2 * k5 + hq))))) (fT vG 1 gsJ)) H := fz_P ht hB9.1
                          have hD := fz_sd hP (hB9.2.weaken (fun _ q _ h => hFc q.1 h)) rfl
                          obtain rfl := hw9
                          have hFc := allFree hD hS hA
                          refine va_callv (va_runV (As := [.int (nI (30 + (2 * k5 + hq) * ((cc + 1) + 1) + (cc + 1)))]) (rest := []) ⟨hx, hb, hml, hown, hts⟩ (b_X12_turn l dC dI a k h0 (fT (fT (fT vi 5 (nI (cc + 1))) 6 (nI ((2 * k5 + hq) + 1))) 7 0) vj (fT (fT (fT (fT (fT (fT (fT vF 74 f74x) 0 g205) 4 f456) 6 f656) 2 f2J) 3 f3J) 5 (upd f53 (nI (2 * k5 + hq)).toNatClampNeg (nI ((cc + 1) + (2 * k5 + hq))))) (fT vG 1 gsJ) (30 + (2 * k5 + hq) * ((cc + 1) + 1) + (cc + 1)) (fT mJ (30 + (2 * k5 + hq) * ((cc + 1) + 1) + (cc + 1)) (mJ 17)) f205_0 (mJ 17) (by rw [fT_eq]) (by first | with_reducible assumption | decide | omega | rfl | assumption) H.size) (cwV 1 hts gwsRX12_addsUp_15 rfl rfl rfl hd_yX12_turn_RX12 (by decide +kernel)) (fz_pre (va_recv hK hP (ci := 12) (q0 := 0) rfl rfl) hP hK hD) rfl rfl hl.1 rfl (lv_room (Nat.le_of_ble_eq_true rfl)) dX12_addsUp_252 (by decide +kernel)) hS (fun q _ h => hFc q h) hFc (fun u t9_ H locs ht hvm hw9 hB9 hz1 hk1 hS => ?_)
                          have e9F : fT (fT (fT (fT (fT (fT (fT vF 74 f74x) 0 (upd g205 (nI (24 * (30 + (2 * k5 + hq) * ((cc + 1) + 1) + (cc + 1)))).toNatClampNeg (-(g205 (24 * (30 + (2 * k5 + hq) * ((cc + 1) + 1) + (cc + 1))))))) 4 f456) 6 f656) 2 f2J) 3 f3J) 5 (upd f53 (nI (2 * k5 + hq)).toNatClampNeg (nI ((cc + 1) + (2 * k5 + hq)))) = fT (fT (fT (fT (fT (fT (fT (fT vF 74 f74x) 0 g205) 4 f456) 6 f656) 2 f2J) 3 f3J) 5 (upd f53 (nI (2 * k5 + hq)).toNatClampNeg (nI ((cc + 1) + (2 * k5 + hq))))) 0 (upd g205 (nI (24 * (30 + (2 * k5 + hq) * ((cc + 1) + 1) + (cc + 1)))).toNatClampNeg (-(g205 (24 * (30 + (2 * k5 + hq) * ((cc + 1) + 1) + (cc + 1)))))) := Eq.symm (up_5 rfl)
                          have hP := wr_PF e9F (fz_P ht hB9.1)
                          have hD := wr_DF e9F (hB9.2.weaken (fun _ q _ h => hFc q.1 h))
                          clear e9F
                          have f252_0 := hw9
                          try dsimp only at f252_0
                          have f252_0 : Bg (upd g205 (nI (24 * (30 + (2 * k5 + hq) * ((cc + 1) + 1) + (cc + 1)))).toNatClampNeg (-(g205 (24 * (30 + (2 * k5 + hq) * ((cc + 1) + 1) + (cc + 1)))))) (fT (fT mJ (30 + (2 * k5 + hq) * ((cc + 1) + 1) + (cc + 1)) (mJ 17)) (30 + (2 * k5 + hq) * ((cc + 1) + 1) + (cc + 1)) (-(mJ 17))) := f252_0
                          have hBl9 : BldP (cc + 1) (2 * k5 + hq + 1) (fT (fT mJ (30 + (2 * k5 + hq) * ((cc + 1) + 1) + (cc + 1)) (mJ 17)) (30 + (2 * k5 + hq) * ((cc + 1) + 1) + (cc + 1)) (-(mJ 17))) (upd f53 (nI (2 * k5 + hq)).toNatClampNeg (nI (cc + 1 + (2 * k5 + hq)))) (bcl (ncS (ncw (vF 61) (vF 71) (vF 72) (vF 73)) z)) Bs := hBl3.more (fun i2 hi2 => by rw [upd_at (by omega), if_neg (by omega)]) (fun p h1 h2 => by (rw [fT_ne _ _ (by omega), fT_ne _ _ (by omega)]); rw [hfJ _ (by omega), hfr _ (by omega), f115_2 _ (by omega)]) (by omega) (by rw [upd_at (by omega), if_pos rfl]) (fun j hj => by (rw [fT_ne _ _ (by omega), fT_ne _ _ (by omega)]); rw [hfJ _ (by omega)]; exact hrw j hj) (by (rw [fT_ne _ _ (by omega), fT_ne _ _ (by omega)]); rw [hfJ _ (by omega), hfr _ (by omega), f115_1 (cc + 1 - 1) (by omega), if_pos rfl]) (by rw [fT_eq]; rw [Int.natAbs_neg]; exact h17b)
                          have h459 : (fT (fT mJ (30 + (2 * k5 + hq) * ((cc + 1) + 1) + (cc + 1)) (mJ 17)) (30 + (2 * k5 + hq) * ((cc + 1) + 1) + (cc + 1)) (-(mJ 17))) 1045 = mS 19 := by (rw [fT_ne _ _ (by omega), fT_ne _ _ (by omega)]); rw [hfJ _ (by omega)]; exact e45
                          have h209 : (fT (fT mJ (30 + (2 * k5 + hq) * ((cc + 1) + 1) + (cc + 1)) (mJ 17)) (30 + (2 * k5 + hq) * ((cc + 1) + 1) + (cc + 1)) (-(mJ 17))) 20 = 1 := by (rw [fT_ne _ _ (by omega), fT_ne _ _ (by omega)]); rw [hfJ _ (by omega), hfr _ (by omega), f115_2 _ (by omega)]; exact h203
                          have ho9 : ∀ q, 1000 ≤ q → q ≠ 1045 → (fT (fT mJ (30 + (2 * k5 + hq) * ((cc + 1) + 1) + (cc + 1)) (mJ 17)) (30 + (2 * k5 + hq) * ((cc + 1) + 1) + (cc + 1)) (-(mJ 17))) q = mg q := fun q h1 h2 => by (rw [fT_ne _ _ (by omega), fT_ne _ _ (by omega)]); rw [hfJ _ (by omega), hfr _ (by omega), f115_2 _ (by omega)]; exact ho3 q h1 h2
                          refine lv_iinc (v := (hw + (-2))) hx hb dX12_addsUp_255 hl (k := 2) rfl rfl (by decide) rfl (fun ls (hl : lv_has ls _ ([(3, .int (hw + (-2))), (0, .ref h0), (2, .int (nI k5)), (4, .int (nI (2 * k5 + hq)))])) => ?_)
                          refine lv_goto (tgt := 109) hx hb dX12_addsUp_258 (by decide) ?_
                          have e9 : fT (fT (fT vi 5 (nI (cc + 1))) 6 (nI (2 * k5 + (hq + 1)))) 7 0 = fT (fT (fT vi 5 (nI (cc + 1))) 6 (nI ((2 * k5 + hq) + 1))) 7 0 := Eq.trans (mv_1 rfl) (Eq.trans (congrArg (fT _ 6) (show nI (2 * k5 + (hq + 1)) = nI ((2 * k5 + hq) + 1) from (by first | with_reducible rfl | with_reducible assumption | (symm; with_reducible assumption) | rfl | assumption | (symm; assumption) | (subst_vars; rfl)))) (mv_1 rfl))
                          have hP := wr_Pi e9 hP
                          have hD := wr_Di e9 hD
                          clear e9
                          have hl : lv_has _ _ ([(0, .ref h0), (2, .int (nI k5)), (3, .int (hw + (-2)))]) := lv_sub hl [1, 2, 0] rfl
                          exact ih109_5 (hw + (-2)) (hq + 1) (upd g205 (nI (24 * (30 + (2 * k5 + hq) * ((cc + 1) + 1) + (cc + 1)))).toNatClampNeg (-(g205 (24 * (30 + (2 * k5 + hq) * ((cc + 1) + 1) + (cc + 1)))))) f2J f3J (upd f53 (nI (2 * k5 + hq)).toNatClampNeg (nI ((cc + 1) + (2 * k5 + hq)))) gsJ (fT (fT mJ (30 + (2 * k5 + hq) * ((cc + 1) + 1) + (cc + 1)) (mJ 17)) (30 + (2 * k5 + hq) * ((cc + 1) + 1) + (cc + 1)) (-(mJ 17))) _ _ _ (f252_0) (by rcases hh with ⟨h1, h2⟩ | ⟨h1, h2⟩ | ⟨h1, h2⟩; (exact Or.inr (Or.inl ⟨by omega, by rw [h2]; decide⟩)); (exact Or.inr (Or.inr ⟨by omega, by rw [h2]; decide⟩)); (omega)) (hBl9) (h459) (h209) (ho9) (by omega) hP hD hS hl
                  · have t_129 : ¬ ((i6 : Nat) : Int) ≥ ((nd : Nat) : Int) := toI_nge c_129 (nI_toInt (by omega)) (nI_toInt (by omega))
                    refine lv_aload_n hx hb dX12_addsUp_132 rfl (lv_at hl 0 rfl) ?_
                    refine lv_iload hx hb dX12_addsUp_133 (lv_at hl 3 rfl) ?_
                    refine lv_iload hx hb dX12_addsUp_135 (lv_at hl 4 rfl) ?_
                    refine lv_aload_n hx hb dX12_addsUp_137 rfl (lv_at hl 0 rfl) ?_
                    refine lv_iload hx hb dX12_addsUp_138 (lv_at hl 4 rfl) ?_
                    refine lv_iload_n hx hb dX12_addsUp_140 rfl (lv_at hl 1 rfl) ?_
                    have hFc := allFree hD hS hA
                    refine va_calli (va_runV (As := [.int (nI i6), .int (nI k5)]) (rest := [.int (nI i6), .int (nI (2 * k5 + hq)), .ref h0]) ⟨hx, hb, hml, hown, hts⟩ (r_X12_needNumbera l dC dI a k h0 (fT (fT (fT vi 5 (nI (cc + 1))) 6 (nI ((2 * k5 + hq) + 1))) 7 0) vj (fT (fT (fT (fT (fT (fT (fT vF 74 f74x) 0 g4) 4 f456) 6 f656) 2 f23) 3 f33) 5 (upd f53 (nI (2 * k5 + hq)).toNatClampNeg (nI ((cc + 1) + (2 * k5 + hq))))) (fT vG 1 gs3) i6 vn mr z nd k5 gq (by first | with_reducible assumption | decide | omega | rfl | assumption) (by first | with_reducible assumption | decide | omega | rfl | assumption) (by first | with_reducible assumption | decide | omega | rfl | assumption) (by first | with_reducible assumption | decide | omega | rfl | assumption) (by first | with_reducible assumption | decide | omega | rfl | assumption) (by omega) H.size) (cwV 2 hts gwsRX12_addsUp_16 rfl rfl rfl hd_yX12_needNumber_RX12 (by decide +kernel)) (fz_pre (va_recv hK hP (ci := 12) (q0 := 0) rfl rfl) hP hK hD) rfl rfl hl.1 rfl (lv_room (Nat.le_of_ble_eq_true rfl)) dX12_addsUp_141 (by decide +kernel)) hS (fun q _ h => hFc q h) hFc (fun r141 u t9_ H locs ht hvm hw9 hB9 hz1 hk1 hS => ?_)
                    have hP : va_P (dC, dI) vwCl (WR a k h0 (fT (fT (fT vi 5 (nI (cc + 1))) 6 (nI ((2 * k5 + hq) + 1))) 7 0) vj (fT (fT (fT (fT (fT (fT (fT vF 74 f74x) 0 g4) 4 f456) 6 f656) 2 f23) 3 f33) 5 (upd f53 (nI (2 * k5 + hq)).toNatClampNeg (nI ((cc + 1) + (2 * k5 + hq))))) (fT vG 1 gs3)) H := fz_P ht hB9.1
                    have hD := fz_sd hP (hB9.2.weaken (fun _ q _ h => hFc q.1 h)) rfl
                    have f141_0 := hw9
                    try dsimp only at f141_0
                    have f141_0 : ((vF 71) i6 = 0 ∧ (r141).toInt.natAbs ≤ 99) ∨ (¬ (vF 71) i6 = 0 ∧ (r141).toInt.natAbs ≤ 1) := f141_0
                    refine lv_iload_n hx hb dX12_addsUp_144 rfl (lv_at hl 2 rfl) ?_
                    have hFc := allFree hD hS hA
                    refine va_callv (va_runV (As := [.int (nI (2 * k5 + hq)), .int (nI i6), .int r141, .int hw]) (rest := []) ⟨hx, hb, hml, hown, hts⟩ (r_X12_spread l dC dI a k h0 (fT (fT (fT vi 5 (nI (cc + 1))) 6 (nI ((2 * k5 + hq) + 1))) 7 0) vj (fT (fT (fT (fT (fT (fT (fT vF 74 f74x) 0 g4) 4 f456) 6 f656) 2 f23) 3 f33) 5 (upd f53 (nI (2 * k5 + hq)).toNatClampNeg (nI ((cc + 1) + (2 * k5 + hq))))) (fT vG 1 gs3) (2 * k5 + hq) r141 hw hI (cc + 1) (bcl (ncS (ncw (vF 61) (vF 71) (vF 72) (vF 73)) z)) i6 vn mr z nd m4 hB4 (by first | with_reducible assumption | decide | omega | rfl | assumption) (by first | with_reducible assumption | decide | omega | rfl | assumption) (by first | with_reducible assumption | decide | omega | rfl | assumption) (by first | with_reducible assumption | decide | omega | rfl | assumption) (by first | with_reducible assumption | decide | omega | rfl | assumption) (by first | with_reducible assumption | decide | omega | rfl | assumption) (by first | with_reducible assumption | decide | omega | rfl | assumption) (h74 _ (by omega)) (hin i6 (by omega)) (hhI) (by first | with_reducible assumption | decide | omega | rfl | assumption) (by rcases f141_0 with h9 | h9 <;> omega) (hN.cap (by omega) f141_0) (hrw) H.size) (cwV 4 hts gwsRX12_addsUp_13 rfl rfl rfl hd_yX12_spread_RX12 (by decide +kernel)) (fz_pre (va_recv hK hP (ci := 12) (q0 := 0) rfl rfl) hP hK hD) rfl rfl hl.1 rfl (lv_room (Nat.le_of_ble_eq_true rfl)) dX12_addsUp_145 (by decide +kernel)) hS (fun q _ h => hFc q h) hFc (fun u t9_ H locs ht hvm hw9 hB9 hz1 hk1 hS => ?_)
                    revert u hw9 hB9
                    refine fz_p2 ?_
                    intro g145 m2145 hw9 hB9
                    try dsimp only at hw9 hB9
                    have e9F : fT (fT (fT (fT (fT (fT (fT vF 74 f74x) 0 g145) 4 f456) 6 f656) 2 f23) 3 f33) 5 (upd f53 (nI (2 * k5 + hq)).toNatClampNeg (nI ((cc + 1) + (2 * k5 + hq)))) = fT (fT (fT (fT (fT (fT (fT (fT vF 74 f74x) 0 g4) 4 f456) 6 f656) 2 f23) 3 f33) 5 (upd f53 (nI (2 * k5 + hq)).toNatClampNeg (nI ((cc + 1) + (2 * k5 + hq))))) 0 g145 := Eq.symm (up_5 rfl)
                    have hP := wr_PF e9F (fz_P ht hB9.1)
                    have hD := wr_DF e9F (hB9.2.weaken (fun _ q _ h => hFc q.1 h))
                    clear e9F
                    revert hw9
                    refine fz_a3 ?_
                    intro f145_0 f145_1 f145_2
                    refine lv_iinc (v := (nI (i6 + 1))) hx hb dX12_addsUp_148 hl (k := 4) rfl (nI_add i6 1) (by decide) rfl (fun ls (hl : lv_has ls _ ([(5, .int (nI (i6 + 1))), (0, .ref h0), (2, .int (nI k5)), (3, .int hw), (4, .int (nI (2 * k5 + hq)))])) => ?_)
                    refine lv_goto (tgt := 123) hx hb dX12_addsUp_151 (by decide) ?_
                    have hl : lv_has _ _ ([(0, .ref h0), (2, .int (nI k5)), (3, .int hw), (4, .int (nI (2 * k5 + hq))), (5, .int (nI (i6 + 1)))]) := lv_sub hl [1, 2, 3, 4, 0] rfl
                    exact ih123_6 (i6 + 1) g145 m2145 _ _ _ (f145_0) (by omega) (f145_1) (fun q hq => by (rw [f145_2 _ (by omega)]); exact hfr q hq) (by omega) hP hD hS hl
    · have t_9 : ¬ ((i5 : Nat) : Int) ≥ ((nd : Nat) : Int) := toI_nge c_9 (nI_toInt (by omega)) (nI_toInt (by omega))
      refine lv_aload_n hx hb dX12_addsUp_12 rfl (lv_at hl 0 rfl) ?_
      refine va_get (D := (dC, dI)) (ci := 12) (v := .ref (a 74)) (C := RX12) (T := TX12) (N := 163) (fs := fM (vS a vi vj)) hx hb hts iwsRX12_addsUp_in12 hown hK hP 0 rfl rfl 123 (by decide) (hts _ hm_r_X12_addsUp_5) (fun _ h9 => h9) rfl dX12_addsUp_13 ?_
      refine lv_iload_n hx hb dX12_addsUp_16 rfl (lv_at hl 2 rfl) ?_
      refine lv_iload_n hx hb dX12_addsUp_17 rfl (lv_at hl 1 rfl) ?_
      refine va_iast (cA := k 74) (n := 28) (f := f74x) hx hb hK hP hD hS 75 74 (WR_get 74 (by decide)) (TR_get 74 (by decide)) (vp_in_nI (show i5 < 28 by omega) (by omega)) dX12_addsUp_18 (fun H locs hP hD hS => ?_)
      have e9 : fT vF 74 (upd f74x ((nI i5)).toNatClampNeg (nI cc)) = fT (fT vF 74 f74x) 74 (upd f74x ((nI i5)).toNatClampNeg (nI cc)) := (fT_sm _ _ _ _).symm
      have hP := wr_PF e9 (fz_w (WR_F 74 (by decide) _ rfl) hP)
      have hD := wr_DF e9 (fz_wD (WR_F 74 (by decide) _ rfl) hD)
      clear e9
      refine lv_iload_n hx hb dX12_addsUp_19 rfl (lv_at hl 1 rfl) ?_
      refine lv_aload_n hx hb dX12_addsUp_20 rfl (lv_at hl 0 rfl) ?_
      refine va_get (D := (dC, dI)) (ci := 12) (v := .ref (a 73)) (C := RX12) (T := TX12) (N := 163) (fs := fM (vS a vi vj)) hx hb hts iwsRX12_addsUp_in12 hown hK hP 0 rfl rfl 122 (by decide) (hts _ hm_r_X12_addsUp_4) (fun _ h9 => h9) rfl dX12_addsUp_21 ?_
      refine lv_iload_n hx hb dX12_addsUp_24 rfl (lv_at hl 2 rfl) ?_
      refine va_iald (cA := k 73) (n := 28) (f := (vF 73)) hx hb hK hP 74 73 (WR_get 73 (by decide)) (TR_get 73 (by decide)) (vp_in_nI (show i5 < 28 by omega) (by omega)) dX12_addsUp_25 ?_
      refine lv_topi (fun y17 hy17 => ?_)
      obtain rfl : ((vF 73) i5) = y17 := (hy17.trans (by rw [nI_clamp (by omega)])).symm
      refine W.cut (pc := 46) (fun H locs ls stk => ∃ (b9 : Nat), (b9 = (ncw (vF 61) (vF 71) (vF 72) (vF 73)) i5) ∧  stk = [.int (nI b9), .int (nI cc)] ∧ va_P (dC, dI) vwCl (WR a k h0 vi vj (fT vF 74 (upd f74x ((nI i5)).toNatClampNeg (nI cc))) vG) H ∧ va_D A (WR a k h0 vi vj (fT vF 74 (upd f74x ((nI i5)).toNatClampNeg (nI cc))) vG) ∧ va_S A s.heap H locs ∧ lv_has ls 6 [(0, .ref h0), (1, .int (nI cc)), (2, .int (nI i5))]) (fun join6 => ?_) ?_
      · refine lv_if_ne (tgt := 33) hx hb dX12_addsUp_26 (by decide) (fun c_26 => ?_) (fun c_26 => ?_)
        · have t_26 : (((vF 73) i5)).toInt ≠ 0 := toI_ne c_26 rfl (by decide)
          refine lv_aload_n hx hb dX12_addsUp_33 rfl (lv_at hl 0 rfl) ?_
          refine lv_iload_n hx hb dX12_addsUp_34 rfl (lv_at hl 2 rfl) ?_
          have hFc := allFree hD hS hA
          refine va_calli (va_runV (As := [.int (nI i5)]) (rest := [.int (nI cc)]) ⟨hx, hb, hml, hown, hts⟩ (r_X12_isEqual l dC dI a k h0 vi vj (fT vF 74 (upd f74x ((nI i5)).toNatClampNeg (nI cc))) vG i5 vn mr z nd (hN) (by first | with_reducible assumption | decide | omega | rfl | assumption) (by first | with_reducible assumption | decide | omega | rfl | assumption) (by first | with_reducible assumption | decide | omega | rfl | assumption) H.size) (cwV 1 hts gwsRX12_addsUp_6 rfl rfl rfl hd_yX12_isEqual_RX12 (by decide +kernel)) (fz_pre (va_recv hK hP (ci := 12) (q0 := 0) rfl rfl) hP hK hD) rfl rfl hl.1 rfl (lv_room (Nat.le_of_ble_eq_true rfl)) dX12_addsUp_35 (by decide +kernel)) hS (fun q _ h => hFc q h) hFc (fun r35 u t9_ H locs ht hvm hw9 hB9 hz1 hk1 hS => ?_)
          have hP : va_P (dC, dI) vwCl (WR a k h0 vi vj (fT vF 74 (upd f74x ((nI i5)).toNatClampNeg (nI cc))) vG) H := fz_P ht hB9.1
          have hD := fz_sd hP (hB9.2.weaken (fun _ q _ h => hFc q.1 h)) rfl
          rcases hw9 with ⟨rfl, f35_0⟩ | ⟨rfl, f35_0⟩
          · have f35_0 : EqP (vF 61) (vF 71) (vF 72) i5 := f35_0
            refine lv_if_eq (tgt := 45) hx hb dX12_addsUp_38 (by decide) (fun c9 => absurd c9 (by decide)) (fun _ => ?_)
            refine lv_iconst (v := 2) hx hb dX12_addsUp_41 (by decide) ?_
            refine lv_goto (tgt := 46) hx hb dX12_addsUp_42 (by decide) ?_
            have hl : lv_has _ _ ([(0, .ref h0), (1, .int (nI cc)), (2, .int (nI i5))]) := lv_sub hl [0, 1, 2] rfl
            exact join6 _ _ _ _ ⟨2, by unfold ncw; rw [if_neg c_26, if_pos f35_0], rfl, hP, hD, hS, hl⟩
          · have f35_0 : ¬ EqP (vF 61) (vF 71) (vF 72) i5 := f35_0
            refine lv_if_eq (tgt := 45) hx hb dX12_addsUp_38 (by decide) (fun _ => ?_) (fun c9 => absurd (by decide) c9)
            refine lv_iconst (v := 1) hx hb dX12_addsUp_45 (by decide) ?_
            have hl : lv_has _ _ ([(0, .ref h0), (1, .int (nI cc)), (2, .int (nI i5))]) := lv_sub hl [0, 1, 2] rfl
            exact join6 _ _ _ _ ⟨1, by unfold ncw; rw [if_neg c_26, if_neg f35_0], rfl, hP, hD, hS, hl⟩
        · have t_26 : (((vF 73) i5)).toInt = 0 := toI_nne c_26 rfl (by decide)
          refine lv_iconst (v := 0) hx hb dX12_addsUp_29 (by decide) ?_
          refine lv_goto (tgt := 46) hx hb dX12_addsUp_30 (by decide) ?_
          have hl : lv_has _ _ ([(0, .ref h0), (1, .int (nI cc)), (2, .int (nI i5))]) := lv_sub hl [0, 1, 2] rfl
          exact join6 _ _ _ _ ⟨0, by unfold ncw; rw [if_pos c_26], rfl, hP, hD, hS, hl⟩
      · rintro H locs ls stk ⟨b9, hb9, rfl, hP, hD, hS, hl⟩
        refine lv_iadd hx hb dX12_addsUp_46 ?_
        refine lv_topi (fun y18 hy18 => ?_)
        obtain rfl : (nI (cc + b9)) = y18 := (hy18.trans (nI_add cc b9)).symm
        refine lv_istore_n hx hb dX12_addsUp_47 rfl hl (by decide) rfl (fun ls (hl : lv_has ls _ ([(1, .int (nI (cc + b9))), (0, .ref h0), (2, .int (nI i5))])) => ?_)
        refine lv_iinc (v := (nI (i5 + 1))) hx hb dX12_addsUp_48 hl (k := 2) rfl (nI_add i5 1) (by decide) rfl (fun ls (hl : lv_has ls _ ([(2, .int (nI (i5 + 1))), (1, .int (nI (cc + b9))), (0, .ref h0)])) => ?_)
        refine lv_goto (tgt := 4) hx hb dX12_addsUp_51 (by decide) ?_
        have hl : lv_has _ _ ([(0, .ref h0), (1, .int (nI (cc + b9))), (2, .int (nI (i5 + 1)))]) := lv_sub hl [2, 1, 0] rfl
        exact ih4 (i5 + 1) (cc + b9) (upd f74x ((nI i5)).toNatClampNeg (nI cc)) _ _ _ (by omega) (by show cc + b9 = ncS (ncw (vF 61) (vF 71) (vF 72) (vF 73)) i5 + (ncw (vF 61) (vF 71) (vF 72) (vF 73)) i5; rw [hcc, hb9]) (fun q hq => by rw [upd_at (by omega)]; by_cases e9 : q = i5; (rw [if_pos e9, e9, hcc]); (rw [if_neg e9]; exact h74 q (by omega))) (by omega) hP hD hS hl
end
section
theorem hd_yX12_addsUp_RX12 : yX12_addsUp.cls = RX12 ∧ yX12_addsUp.cls ≠ "java/lang/invoke/MethodHandle" ∧ yX12_addsUp.cls ≠ "java/lang/invoke/VarHandle" ∧ (parseMethodDescriptor yX12_addsUp.desc).map (fun d => d.parameters.length) = some 0 := by decide +kernel
theorem hd_yX12_shorten_RX12 : yX12_shorten.cls = RX12 ∧ yX12_shorten.cls ≠ "java/lang/invoke/MethodHandle" ∧ yX12_shorten.cls ≠ "java/lang/invoke/VarHandle" ∧ (parseMethodDescriptor yX12_shorten.desc).map (fun d => d.parameters.length) = some 2 := by decide +kernel
theorem hd_yX12_listNeeds_RX12 : yX12_listNeeds.cls = RX12 ∧ yX12_listNeeds.cls ≠ "java/lang/invoke/MethodHandle" ∧ yX12_listNeeds.cls ≠ "java/lang/invoke/VarHandle" ∧ (parseMethodDescriptor yX12_listNeeds.desc).map (fun d => d.parameters.length) = some 0 := by decide +kernel
theorem hd_yX12_shortBest_RX12 : yX12_shortBest.cls = RX12 ∧ yX12_shortBest.cls ≠ "java/lang/invoke/MethodHandle" ∧ yX12_shortBest.cls ≠ "java/lang/invoke/VarHandle" ∧ (parseMethodDescriptor yX12_shortBest.desc).map (fun d => d.parameters.length) = some 0 := by decide +kernel
theorem hd_yX12_best1_RX12 : yX12_best1.cls = RX12 ∧ yX12_best1.cls ≠ "java/lang/invoke/MethodHandle" ∧ yX12_best1.cls ≠ "java/lang/invoke/VarHandle" ∧ (parseMethodDescriptor yX12_best1.desc).map (fun d => d.parameters.length) = some 0 := by decide +kernel
theorem hd_yX12_multipliers_RX12 : yX12_multipliers.cls = RX12 ∧ yX12_multipliers.cls ≠ "java/lang/invoke/MethodHandle" ∧ yX12_multipliers.cls ≠ "java/lang/invoke/VarHandle" ∧ (parseMethodDescriptor yX12_multipliers.desc).map (fun d => d.parameters.length) = some 0 := by decide +kernel
theorem hd_yX12_proves_RX12 : yX12_proves.cls = RX12 ∧ yX12_proves.cls ≠ "java/lang/invoke/MethodHandle" ∧ yX12_proves.cls ≠ "java/lang/invoke/VarHandle" ∧ (parseMethodDescriptor yX12_proves.desc).map (fun d => d.parameters.length) = some 0 := by decide +kernel
theorem dX12_proves_0 : decode cX12_proves 0 = .ok (.aload_n 0, 1) := dk_42 (by decide +kernel)
theorem dX12_proves_1 : decode cX12_proves 1 = .ok (.invokevirtual 912, 3) := dk_182 (by decide +kernel)
theorem dX12_proves_4 : decode cX12_proves 4 = .ok (.ifCond .ne 5, 3) := dk_154 (by decide +kernel)
theorem dX12_proves_7 : decode cX12_proves 7 = .ok (.iconst 0, 1) := dk_3 (by decide +kernel)
theorem dX12_proves_8 : decode cX12_proves 8 = .ok (.ireturn, 1) := dk_172 (by decide +kernel)
theorem dX12_proves_9 : decode cX12_proves 9 = .ok (.aload_n 0, 1) := dk_42 (by decide +kernel)
theorem dX12_proves_10 : decode cX12_proves 10 = .ok (.sipush 1048, 3) := dk_17 (by decide +kernel)
theorem dX12_proves_13 : decode cX12_proves 13 = .ok (.bipush 20, 2) := dk_16 (by decide +kernel)
theorem dX12_proves_15 : decode cX12_proves 15 = .ok (.sipush 1045, 3) := dk_17 (by decide +kernel)
theorem dX12_proves_18 : decode cX12_proves 18 = .ok (.invokevirtual 390, 3) := dk_182 (by decide +kernel)
theorem dX12_proves_21 : decode cX12_proves 21 = .ok (.aload_n 0, 1) := dk_42 (by decide +kernel)
theorem dX12_proves_22 : decode cX12_proves 22 = .ok (.aload_n 0, 1) := dk_42 (by decide +kernel)
theorem dX12_proves_23 : decode cX12_proves 23 = .ok (.aload_n 0, 1) := dk_42 (by decide +kernel)
theorem dX12_proves_24 : decode cX12_proves 24 = .ok (.getfield 399, 3) := dk_180 (by decide +kernel)
theorem dX12_proves_27 : decode cX12_proves 27 = .ok (.iconst 1, 1) := dk_4 (by decide +kernel)
theorem dX12_proves_28 : decode cX12_proves 28 = .ok (.iadd, 1) := dk_96 (by decide +kernel)
theorem dX12_proves_29 : decode cX12_proves 29 = .ok (.aload_n 0, 1) := dk_42 (by decide +kernel)
theorem dX12_proves_30 : decode cX12_proves 30 = .ok (.getfield 396, 3) := dk_180 (by decide +kernel)
theorem dX12_proves_33 : decode cX12_proves 33 = .ok (.invokevirtual 405, 3) := dk_182 (by decide +kernel)
theorem dX12_proves_36 : decode cX12_proves 36 = .ok (.sipush 1048, 3) := dk_17 (by decide +kernel)
theorem dX12_proves_39 : decode cX12_proves 39 = .ok (.sipush 1046, 3) := dk_17 (by decide +kernel)
theorem dX12_proves_42 : decode cX12_proves 42 = .ok (.sipush 1047, 3) := dk_17 (by decide +kernel)
theorem dX12_proves_45 : decode cX12_proves 45 = .ok (.invokevirtual 862, 3) := dk_182 (by decide +kernel)
theorem dX12_proves_48 : decode cX12_proves 48 = .ok (.ifCond .lt 7, 3) := dk_155 (by decide +kernel)
theorem dX12_proves_51 : decode cX12_proves 51 = .ok (.iconst 1, 1) := dk_4 (by decide +kernel)
theorem dX12_proves_52 : decode cX12_proves 52 = .ok (.goto 4, 3) := dk_167 (by decide +kernel)
theorem dX12_proves_55 : decode cX12_proves 55 = .ok (.iconst 0, 1) := dk_3 (by decide +kernel)
theorem dX12_proves_56 : decode cX12_proves 56 = .ok (.ireturn, 1) := dk_172 (by decide +kernel)
def wsRX12_proves : List Cond := .code yX12_proves cX12_proves 1 (some .boolean) :: ([.fieldLink RX12 399 "OptimaWorksModel" "rows" "I", .fieldLink RX12 396 "OptimaWorksModel" "columns" "I"] ++ wsX120 ++ (wsV RX12 912 RX12 yX12_addsUp wsRX12_addsUp) ++ (wsV RX12 390 RX12 yX12_times wsRX12_times) ++ (wsV RX12 405 RX12 yX12_at wsRX12_at) ++ (wsV RX12 862 RX12 yX12_against wsRX12_against))
theorem iwsRX12_proves_in12 : ∀ w ∈ wsX120, w ∈ wsRX12_proves := fun _ h => List.mem_cons_of_mem _ (List.mem_append_left _ (List.mem_append_left _ (List.mem_append_left _ (List.mem_append_left _ (List.mem_append_right _ h)))))
theorem gwsRX12_proves_0 : GoodIn wsRX12_proves (wsV RX12 912 RX12 yX12_addsUp wsRX12_addsUp) := goodIn_sub (fun _ h => List.mem_cons_of_mem _ (List.mem_append_left _ (List.mem_append_left _ (List.mem_append_left _ (List.mem_append_right _ h))))) (gdV (by decide +kernel) gdwsRX12_addsUp)
theorem gwsRX12_proves_1 : GoodIn wsRX12_proves (wsV RX12 390 RX12 yX12_times wsRX12_times) := goodIn_sub (fun _ h => List.mem_cons_of_mem _ (List.mem_append_left _ (List.mem_append_left _ (List.mem_append_right _ h)))) (gdV (by decide +kernel) gdwsRX12_times)
theorem gwsRX12_proves_2 : GoodIn wsRX12_proves (wsV RX12 405 RX12 yX12_at wsRX12_at) := goodIn_sub (fun _ h => List.mem_cons_of_mem _ (List.mem_append_left _ (List.mem_append_right _ h))) (gdV (by decide +kernel) gdwsRX12_at)
theorem gwsRX12_proves_3 : GoodIn wsRX12_proves (wsV RX12 862 RX12 yX12_against wsRX12_against) := goodIn_sub (fun _ h => List.mem_cons_of_mem _ (List.mem_append_right _ h)) (gdV (by decide +kernel) gdwsRX12_against)
theorem gdwsRX12_proves : wsRX12_proves.all goodWord = true := gdC rfl (gdA (gdA (gdA (gdA (gdA (by decide +kernel : ([.fieldLink RX12 399 "OptimaWorksModel" "rows" "I", .fieldLink RX12 396 "OptimaWorksModel" "columns" "I"] : List Cond).all goodWord = true) gdwsX120) (gdV (by decide +kernel) gdwsRX12_addsUp)) (gdV (by decide +kernel) gdwsRX12_times)) (gdV (by decide +kernel) gdwsRX12_at)) (gdV (by decide +kernel) gdwsRX12_against))
set_option maxHeartbeats 4000000 in
set_option maxRecDepth 100000 in
/-- proves() -/
theorem r_X12_proves (l : Launch) (dC : Nat → ClassId) (dI : Nat → Nat → Nat) (a : Nat → Nat) (k : Nat → ClassId) (h0 : Nat) (vi : Nat → Int32) (vj : Nat → Int64) (vF : Nat → Nat → Int32) (vG : Nat → Nat → Int64) (vn : Nat) (mr : Nat) (gq : Nat) (z : Nat) (nd : Nat) (mg : Nat → Int) (hBg : Bg (vF 0) mg) (hvn : vi 90 = nI vn) (hvn8 : vn ≤ 8) (hmr12 : mr ≤ 12) (hmg : vi 93 = nI gq) (hgq : gq ≤ 3) (hM : MdlB vF gq) (hnd : vi 119 = nI nd) (hN : NdO (vF 71) (vF 72) vn mr z nd) (hPr : (vi 118 ≠ 0 ∧ Sz 294 (mg 1046) ∧ Sz 258 (mg 1047)) ∨ (Sz 224 (mg 1046) ∧ Sz 201 (mg 1047))) (sz : Nat) : Met l yX12_proves wsRX12_proves ({ frames := 7, cells := 0, slots := 0, locals := 182 }) (va_Pc [.ref h0] (fun U => U.heap.size = sz ∧ va_P (dC, dI) vwCl (WR a k h0 vi vj vF vG) U.heap ∧ va_K (dC, dI) vwCl (tX12 k) U ∧ va_D (fun _ => True) (WR a k h0 vi vj vF vG))) (va_Qi (fun (r : Int32) (u : (Nat → Int32) × (Nat → Int32) × (Nat → Int32) × (Nat → Int32) × (Nat → Int32) × (Nat → Int32) × (Nat → Int32) × (Nat → Int64) × (Nat → Int64) × (Nat → Int64) × (Int64) × (Nat → Int) × (Int32) × (Int32) × (Int32)) => (Bg (u.1) (u.2.2.2.2.2.2.2.2.2.2.2.1)) ∧ ((r) = 0 ∨ (r) = 1) ∧ (∀ q, 1000 ≤ q → q ≠ 1045 → q ≠ 1048 → (u.2.2.2.2.2.2.2.2.2.2.2.1) q = mg q)) (fun (u : (Nat → Int32) × (Nat → Int32) × (Nat → Int32) × (Nat → Int32) × (Nat → Int32) × (Nat → Int32) × (Nat → Int32) × (Nat → Int64) × (Nat → Int64) × (Nat → Int64) × (Int64) × (Nat → Int) × (Int32) × (Int32) × (Int32)) t => va_P (dC, dI) vwCl (WR a k h0 (fT (fT (fT (fT vi 5 (u.2.2.2.2.2.2.2.2.2.2.2.2.1)) 6 (u.2.2.2.2.2.2.2.2.2.2.2.2.2.1)) 7 (u.2.2.2.2.2.2.2.2.2.2.2.2.2.2)) 11 0) (fT vj 12 (u.2.2.2.2.2.2.2.2.2.2.1)) (fT (fT (fT (fT (fT (fT (fT vF 74 (u.2.2.2.2.2.2.1)) 0 (u.1)) 4 (u.2.2.2.1)) 6 (u.2.2.2.2.2.1)) 2 (u.2.1)) 3 (u.2.2.1)) 5 (u.2.2.2.2.1)) (fT (fT (fT vG 1 (u.2.2.2.2.2.2.2.1)) 7 (u.2.2.2.2.2.2.2.2.1)) 8 (u.2.2.2.2.2.2.2.2.2.1))) t.heap ∧ va_D (va_A (WR a k h0 vi vj vF vG) sz) (WR a k h0 (fT (fT (fT (fT vi 5 (u.2.2.2.2.2.2.2.2.2.2.2.2.1)) 6 (u.2.2.2.2.2.2.2.2.2.2.2.2.2.1)) 7 (u.2.2.2.2.2.2.2.2.2.2.2.2.2.2)) 11 0) (fT vj 12 (u.2.2.2.2.2.2.2.2.2.2.1)) (fT (fT (fT (fT (fT (fT (fT vF 74 (u.2.2.2.2.2.2.1)) 0 (u.1)) 4 (u.2.2.2.1)) 6 (u.2.2.2.2.2.1)) 2 (u.2.1)) 3 (u.2.2.1)) 5 (u.2.2.2.2.1)) (fT (fT (fT vG 1 (u.2.2.2.2.2.2.2.1)) 7 (u.2.2.2.2.2.2.2.2.1)) 8 (u.2.2.2.2.2.2.2.2.2.1)))) (va_A (WR a k h0 vi vj vF vG) sz)) 0 0 (va_A (WR a k h0 vi vj vF vG) sz) := by
  refine Met.ofW (cc := cX12_proves) (maxL := 1) (ret := (some .boolean)) (by decide) rfl ?_
  intro p e s m args below meth c s₁ B hml hv
  obtain ⟨rfl, hsz, hP, hK, hD0⟩ := hv
  have hx := B.exec
  have hb := B.bytes
  have hr := B.returns
  have hts := atoms_spec (ws := wsRX12_proves) B.pre
  have hown : s.vm.findClass RX12 = some m.cls := findClass_of_methodNamed B.named
  have hlocks := B.notSynchronized
  subst hsz
  have hD := hD0.self (sz := s.heap.size)
  generalize hAe : va_A (WR a k h0 vi vj vF vG) s.heap.size = A at hD ⊢
  have hA : ∀ q : Nat, s.heap.size ≤ q → A q := fun q h => by rw [← hAe]; exact Or.inr h
  have hS : va_S A s.heap s.heap [] := va_S.rf
  have hl := lv_entry ([.ref h0]) (n := 1) (Nat.le_of_ble_eq_true rfl)
  rw [lg_entry_eq]
  generalize (lg_sl ([.ref h0]) ++ List.replicate (1 - (lg_sl ([.ref h0])).length) Slot.unset).toArray = ls at hl ⊢
  have hl : lv_has ls 1 [(0, .ref h0)] := hl
  refine lv_aload_n hx hb dX12_proves_0 rfl (lv_at hl 0 rfl) ?_
  have hFc := allFree hD hS hA
  refine va_calli (va_runV (As := []) (rest := []) ⟨hx, hb, hml, hown, hts⟩ (r_X12_addsUp l dC dI a k h0 vi vj vF vG vn mr gq z nd mg hBg (by first | with_reducible assumption | decide | omega | rfl | assumption) (by first | with_reducible assumption | decide | omega | rfl | assumption) (by first | with_reducible assumption | decide | omega | rfl | assumption) (by first | with_reducible assumption | decide | omega | rfl | assumption) (by first | with_reducible assumption | decide | omega | rfl | assumption) (by first | with_reducible assumption | decide | omega | rfl | assumption) (by first | with_reducible assumption | decide | omega | rfl | assumption) (by first | with_reducible assumption | decide | omega | rfl | assumption) s.heap.size) (cwV 0 hts gwsRX12_proves_0 rfl rfl rfl hd_yX12_addsUp_RX12 (by decide +kernel)) (fz_pre (va_recv hK hP (ci := 12) (q0 := 0) rfl rfl) hP hK hD) rfl rfl hl.1 rfl (lv_room (Nat.le_of_ble_eq_true rfl)) dX12_proves_1 (by decide +kernel)) hS (fun q _ h => hFc q h) hFc (fun r1 u t9_ H locs ht hvm hw9 hB9 hz1 hk1 hS => ?_)
  revert u hw9 hB9
  refine fz_p16 ?_
  intro g1 f2w1 f3w1 f41 f51 f61 f741 gs1 F1 L81 qd1 C1 R1 t21 D21 m21 hw9 hB9
  try dsimp only at hw9 hB9
  have hP : va_P (dC, dI) vwCl (WR a k h0 (fT (fT (fT (fT vi 5 (nI C1)) 6 (nI R1)) 7 (nI 2)) 11 0) (fT vj 12 qd1) (fT (fT (fT (fT (fT (fT (fT vF 74 f741) 0 g1) 4 f41) 6 f61) 2 f2w1) 3 f3w1) 5 f51) (fT (fT (fT vG 1 gs1) 7 F1) 8 L81)) H := fz_P ht hB9.1
  have hD := fz_sd hP (hB9.2.weaken (fun _ q _ h => hFc q.1 h)) rfl
  revert hw9
  refine fz_a9 ?_
  intro f1_0 f1_1 f1_2 f1_3 f1_4 f1_5 f1_6 f1_7 f1_8
  have f1_6 : 0 < m21 1045 ∧ Sz 67 (m21 1045) ∧ ((vi 118) ≠ 0 → m21 1045 = 1) := f1_6
  refine lv_if_ne (tgt := 9) hx hb dX12_proves_4 (by decide) (fun c_4 => ?_) (fun c_4 => ?_)
  · have t_4 : (r1).toInt ≠ 0 := toI_ne c_4 rfl (by decide)
    have hpl := pl_lt (C := C1) (show R1 + 1 < R1 + 2 by omega) (Nat.le_refl C1)
    have hp2 : (R1 + 2) * (C1 + 1) ≤ 20 * 42 := Nat.mul_le_mul (by omega) (by omega)
    have hgo := f1_1.1 (R1 + 1) (by omega) C1 (Nat.le_refl _)
    have h20 := f1_1.2
    refine lv_aload_n hx hb dX12_proves_9 rfl (lv_at hl 0 rfl) ?_
    refine lv_sipush (v := 1048) hx hb dX12_proves_10 (by decide) ?_
    refine lv_bipush (v := 20) hx hb dX12_proves_13 (by decide) ?_
    refine lv_sipush (v := 1045) hx hb dX12_proves_15 (by decide) ?_
    have hFc := allFree hD hS hA
    refine va_callv (va_runV (As := [.int 1048, .int 20, .int 1045]) (rest := []) ⟨hx, hb, hml, hown, hts⟩ (b_X12_times l dC dI a k h0 (fT (fT (fT (fT vi 5 (nI C1)) 6 (nI R1)) 7 (nI 2)) 11 0) (fT vj 12 qd1) (fT (fT (fT (fT (fT (fT (fT vF 74 f741) 0 g1) 4 f41) 6 f61) 2 f2w1) 3 f3w1) 5 f51) (fT (fT (fT vG 1 gs1) 7 F1) 8 L81) 1048 20 1045 m21 f1_0 (m21 20) (m21 1045) rfl rfl (by first | with_reducible assumption | decide | omega | rfl | assumption) (by first | with_reducible assumption | decide | omega | rfl | assumption) (by first | with_reducible assumption | decide | omega | rfl | assumption) (by rw [h20]; exact mulpN (c := 588) f1_2.2 f1_6.2.1 (by decide)) H.size) (cwV 3 hts gwsRX12_proves_1 rfl rfl rfl hd_yX12_times_RX12 (by decide +kernel)) (fz_pre (va_recv hK hP (ci := 12) (q0 := 0) rfl rfl) hP hK hD) rfl rfl hl.1 rfl (lv_room (Nat.le_of_ble_eq_true rfl)) dX12_proves_18 (by decide +kernel)) hS (fun q _ h => hFc q h) hFc (fun u t9_ H locs ht hvm hw9 hB9 hz1 hk1 hS => ?_)
    revert u hw9 hB9
    refine fz_p2 ?_
    intro g18 gs18 hw9 hB9
    try dsimp only at hw9 hB9
    have e9F : fT (fT (fT (fT (fT (fT (fT vF 74 f741) 0 g18) 4 f41) 6 f61) 2 f2w1) 3 f3w1) 5 f51 = fT (fT (fT (fT (fT (fT (fT (fT vF 74 f741) 0 g1) 4 f41) 6 f61) 2 f2w1) 3 f3w1) 5 f51) 0 g18 := ((fT_sw _ _ _ (Nat.ne_of_beq_eq_false rfl)).trans (congrArg (fun g9 => fT g9 5 f51) ((fT_sw _ _ _ (Nat.ne_of_beq_eq_false rfl)).trans (congrArg (fun g9 => fT g9 3 f3w1) ((fT_sw _ _ _ (Nat.ne_of_beq_eq_false rfl)).trans (congrArg (fun g9 => fT g9 2 f2w1) ((fT_sw _ _ _ (Nat.ne_of_beq_eq_false rfl)).trans (congrArg (fun g9 => fT g9 6 f61) ((fT_sw _ _ _ (Nat.ne_of_beq_eq_false rfl)).trans (congrArg (fun g9 => fT g9 4 f41) (fT_sm _ _ _ _))))))))))).symm
    have e9G : fT (fT (fT vG 1 gs18) 7 F1) 8 L81 = fT (fT (fT (fT vG 1 gs1) 7 F1) 8 L81) 1 gs18 := ((fT_sw _ _ _ (Nat.ne_of_beq_eq_false rfl)).trans (congrArg (fun g9 => fT g9 8 L81) ((fT_sw _ _ _ (Nat.ne_of_beq_eq_false rfl)).trans (congrArg (fun g9 => fT g9 7 F1) (fT_sm _ _ _ _))))).symm
    have hP := wr_PG e9G (wr_PF e9F (fz_P ht hB9.1))
    have hD := wr_DG e9G (wr_DF e9F (hB9.2.weaken (fun _ q _ h => hFc q.1 h)))
    clear e9F e9G
    have f18_0 := hw9
    try dsimp only at f18_0
    refine lv_aload_n hx hb dX12_proves_21 rfl (lv_at hl 0 rfl) ?_
    refine lv_aload_n hx hb dX12_proves_22 rfl (lv_at hl 0 rfl) ?_
    refine lv_aload_n hx hb dX12_proves_23 rfl (lv_at hl 0 rfl) ?_
    refine va_get (D := (dC, dI)) (ci := 12) (v := .int (nI R1)) (C := RX12) (T := TX12) (N := 163) (fs := fM (vS a (fT (fT (fT (fT vi 5 (nI C1)) 6 (nI R1)) 7 (nI 2)) 11 0) (fT vj 12 qd1))) hx hb hts iwsRX12_proves_in12 hown hK hP 0 rfl rfl 6 (by decide) (hts (.fieldLink RX12 399 "OptimaWorksModel" "rows" "I") (by decide +kernel)) (fun _ h9 => h9) rfl dX12_proves_24 ?_
    refine lv_iconst (v := 1) hx hb dX12_proves_27 (by decide) ?_
    refine lv_iadd hx hb dX12_proves_28 ?_
    refine lv_topi (fun y1 hy1 => ?_)
    obtain rfl : (nI (R1 + 1)) = y1 := (hy1.trans (nI_add R1 1)).symm
    refine lv_aload_n hx hb dX12_proves_29 rfl (lv_at hl 0 rfl) ?_
    refine va_get (D := (dC, dI)) (ci := 12) (v := .int (nI C1)) (C := RX12) (T := TX12) (N := 163) (fs := fM (vS a (fT (fT (fT (fT vi 5 (nI C1)) 6 (nI R1)) 7 (nI 2)) 11 0) (fT vj 12 qd1))) hx hb hts iwsRX12_proves_in12 hown hK hP 0 rfl rfl 5 (by decide) (hts (.fieldLink RX12 396 "OptimaWorksModel" "columns" "I") (by decide +kernel)) (fun _ h9 => h9) rfl dX12_proves_30 ?_
    have hFc := allFree hD hS hA
    refine va_calli (va_runV (As := [.int (nI (R1 + 1)), .int (nI C1)]) (rest := [.ref h0]) ⟨hx, hb, hml, hown, hts⟩ (r_X12_at l dC dI a k h0 (fT (fT (fT (fT vi 5 (nI C1)) 6 (nI R1)) 7 (nI 2)) 11 0) (fT vj 12 qd1) (fT (fT (fT (fT (fT (fT (fT vF 74 f741) 0 g18) 4 f41) 6 f61) 2 f2w1) 3 f3w1) 5 f51) (fT (fT (fT vG 1 gs18) 7 F1) 8 L81) (R1 + 1) C1 C1 (by first | with_reducible assumption | decide | omega | rfl | assumption) H.size) (cwV 2 hts gwsRX12_proves_2 rfl rfl rfl hd_yX12_at_RX12 (by decide +kernel)) (fz_pre (va_recv hK hP (ci := 12) (q0 := 0) rfl rfl) hP hK hD) rfl rfl hl.1 rfl (lv_room (Nat.le_of_ble_eq_true rfl)) dX12_proves_33 (by decide +kernel)) hS (fun q _ h => hFc q h) hFc (fun r33 u t9_ H locs ht hvm hw9 hB9 hz1 hk1 hS => ?_)
    have hP : va_P (dC, dI) vwCl (WR a k h0 (fT (fT (fT (fT vi 5 (nI C1)) 6 (nI R1)) 7 (nI 2)) 11 0) (fT vj 12 qd1) (fT (fT (fT (fT (fT (fT (fT vF 74 f741) 0 g18) 4 f41) 6 f61) 2 f2w1) 3 f3w1) 5 f51) (fT (fT (fT vG 1 gs18) 7 F1) 8 L81)) H := fz_P ht hB9.1
    have hD := fz_sd hP (hB9.2.weaken (fun _ q _ h => hFc q.1 h)) rfl
    obtain rfl := hw9
    refine lv_sipush (v := 1048) hx hb dX12_proves_36 (by decide) ?_
    refine lv_sipush (v := 1046) hx hb dX12_proves_39 (by decide) ?_
    refine lv_sipush (v := 1047) hx hb dX12_proves_42 (by decide) ?_
    have hFc := allFree hD hS hA
    refine va_calli (va_runV (As := [.int (nI (30 + (R1 + 1) * (C1 + 1) + C1)), .int 1048, .int 1046, .int 1047]) (rest := []) ⟨hx, hb, hml, hown, hts⟩ (r_X12_against l dC dI a k h0 (fT (fT (fT (fT vi 5 (nI C1)) 6 (nI R1)) 7 (nI 2)) 11 0) (fT vj 12 qd1) (fT (fT (fT (fT (fT (fT (fT vF 74 f741) 0 g18) 4 f41) 6 f61) 2 f2w1) 3 f3w1) 5 f51) (fT (fT (fT vG 1 gs18) 7 F1) 8 L81) (30 + (R1 + 1) * (C1 + 1) + C1) 1048 1046 1047 (fT m21 1048 ((m21 20) * (m21 1045))) f18_0 (m21 (30 + (R1 + 1) * (C1 + 1) + C1)) ((m21 20) * (m21 1045)) (mg 1046) (mg 1047) (by rw [fT_ne _ _ (by omega)]) (by rw [fT_eq]) (by rw [fT_ne _ _ (by omega), f1_7 _ (by omega) (by omega)]) (by rw [fT_ne _ _ (by omega), f1_7 _ (by omega) (by omega)]) (by first | with_reducible assumption | decide | omega | rfl | assumption) (by first | with_reducible assumption | decide | omega | rfl | assumption) (by first | with_reducible assumption | decide | omega | rfl | assumption) (by first | with_reducible assumption | decide | omega | rfl | assumption) (by first | with_reducible assumption | decide | omega | rfl | assumption) (by rw [hgo]; rcases hPr with ⟨h1, h2, h3⟩ | ⟨h2, h3⟩; (exact mulpN (f1_4 (R1 + 1) (by omega)) h3 (by decide)); (exact mulpN (f1_4 (R1 + 1) (by omega)) h3 (by decide))) (by rw [h20]; rcases hPr with ⟨h1, h2, h3⟩ | ⟨h2, h3⟩; (rw [f1_6.2.2 h1, Int.mul_one]; exact mulpN h2 f1_2.2 (by decide)); (exact mulpN h2 (mulp (c := 325) f1_2.2 f1_6.2.1 (by decide)) (by decide))) H.size) (cwV 4 hts gwsRX12_proves_3 rfl rfl rfl hd_yX12_against_RX12 (by decide +kernel)) (fz_pre (va_recv hK hP (ci := 12) (q0 := 0) rfl rfl) hP hK hD) rfl rfl hl.1 rfl (lv_room (Nat.le_of_ble_eq_true rfl)) dX12_proves_45 (by decide +kernel)) hS (fun q _ h => hFc q h) hFc (fun r45 u t9_ H locs ht hvm hw9 hB9 hz1 hk1 hS => ?_)
    revert u hw9 hB9
    refine fz_p3 ?_
    intro g45 gs45 m245 hw9 hB9
    try dsimp only at hw9 hB9
    have e9F : fT (fT (fT (fT (fT (fT (fT vF 74 f741) 0 g45) 4 f41) 6 f61) 2 f2w1) 3 f3w1) 5 f51 = fT (fT (fT (fT (fT (fT (fT (fT vF 74 f741) 0 g18) 4 f41) 6 f61) 2 f2w1) 3 f3w1) 5 f51) 0 g45 := ((fT_sw _ _ _ (Nat.ne_of_beq_eq_false rfl)).trans (congrArg (fun g9 => fT g9 5 f51) ((fT_sw _ _ _ (Nat.ne_of_beq_eq_false rfl)).trans (congrArg (fun g9 => fT g9 3 f3w1) ((fT_sw _ _ _ (Nat.ne_of_beq_eq_false rfl)).trans (congrArg (fun g9 => fT g9 2 f2w1) ((fT_sw _ _ _ (Nat.ne_of_beq_eq_false rfl)).trans (congrArg (fun g9 => fT g9 6 f61) ((fT_sw _ _ _ (Nat.ne_of_beq_eq_false rfl)).trans (congrArg (fun g9 => fT g9 4 f41) (fT_sm _ _ _ _))))))))))).symm
    have e9G : fT (fT (fT vG 1 gs45) 7 F1) 8 L81 = fT (fT (fT (fT vG 1 gs18) 7 F1) 8 L81) 1 gs45 := ((fT_sw _ _ _ (Nat.ne_of_beq_eq_false rfl)).trans (congrArg (fun g9 => fT g9 8 L81) ((fT_sw _ _ _ (Nat.ne_of_beq_eq_false rfl)).trans (congrArg (fun g9 => fT g9 7 F1) (fT_sm _ _ _ _))))).symm
    have hP := wr_PG e9G (wr_PF e9F (fz_P ht hB9.1))
    have hD := wr_DG e9G (wr_DF e9F (hB9.2.weaken (fun _ q _ h => hFc q.1 h)))
    clear e9F e9G
    revert hw9
    refine fz_a3 ?_
    intro f45_0 f45_1 f45_2
    refine lv_if_lt (tgt := 55) hx hb dX12_proves_48 (by decide) (fun c_48 => ?_) (fun c_48 => ?_)
    · have t_48 : (r45).toInt < 0 := toI_lt c_48 rfl (by decide)
      refine lv_iconst (v := 0) hx hb dX12_proves_55 (by decide) ?_
      refine W.widen (k := 0) (n := 0) (by decide +kernel) (by decide +kernel) ?_
      exact W.zret (v := 0) hx hb hr rfl (fun t9_ ht hW => ⟨⟨0, (g45, f2w1, f3w1, f41, f51, f61, f741, gs45, F1, L81, qd1, m245, (nI C1), (nI R1), (nI 2)), rfl, by (try dsimp only); exact ⟨f45_0, Or.inl rfl, fun q h1 h2 h3 => by (rw [f45_2 _ (by omega), fT_ne _ _ (by omega), f1_7 _ (by omega) (by omega)])⟩, by rw [ht]; exact hP, hD⟩, hS.F ht⟩) hS.2.2 dX12_proves_56
    · have t_48 : ¬ (r45).toInt < 0 := toI_nlt c_48 rfl (by decide)
      refine lv_iconst (v := 1) hx hb dX12_proves_51 (by decide) ?_
      refine lv_goto (tgt := 56) hx hb dX12_proves_52 (by decide) ?_
      refine W.widen (k := 0) (n := 0) (by decide +kernel) (by decide +kernel) ?_
      exact W.zret (v := 1) hx hb hr rfl (fun t9_ ht hW => ⟨⟨1, (g45, f2w1, f3w1, f41, f51, f61, f741, gs45, F1, L81, qd1, m245, (nI C1), (nI R1), (nI 2)), rfl, by (try dsimp only); exact ⟨f45_0, Or.inr rfl, fun q h1 h2 h3 => by (rw [f45_2 _ (by omega), fT_ne _ _ (by omega), f1_7 _ (by omega) (by omega)])⟩, by rw [ht]; exact hP, hD⟩, hS.F ht⟩) hS.2.2 dX12_proves_56
  · have t_4 : (r1).toInt = 0 := toI_nne c_4 rfl (by decide)
    refine lv_iconst (v := 0) hx hb dX12_proves_7 (by decide) ?_
    refine W.widen (k := 0) (n := 0) (by decide +kernel) (by decide +kernel) ?_
    exact W.zret (v := 0) hx hb hr rfl (fun t9_ ht hW => ⟨⟨0, (g1, f2w1, f3w1, f41, f51, f61, f741, gs1, F1, L81, qd1, m21, (nI C1), (nI R1), (nI 2)), rfl, by (try dsimp only); exact ⟨f1_0, Or.inl rfl, fun q h1 h2 h3 => by (rw [f1_7 _ (by omega) (by omega)])⟩, by rw [ht]; exact hP, hD⟩, hS.F ht⟩) hS.2.2 dX12_proves_8
theorem dX12_best1_0 : decode cX12_best1 0 = .ok (.aload_n 0, 1) := dk_42 (by decide +kernel)
theorem dX12_best1_1 : decode cX12_best1 1 = .ok (.sipush 1050, 3) := dk_17 (by decide +kernel)
theorem dX12_best1_4 : decode cX12_best1 4 = .ok (.lconst 0, 1) := dk_9 (by decide +kernel)
theorem dX12_best1_5 : decode cX12_best1 5 = .ok (.invokevirtual 369, 3) := dk_182 (by decide +kernel)
theorem dX12_best1_8 : decode cX12_best1 8 = .ok (.aload_n 0, 1) := dk_42 (by decide +kernel)
theorem dX12_best1_9 : decode cX12_best1 9 = .ok (.sipush 1051, 3) := dk_17 (by decide +kernel)
theorem dX12_best1_12 : decode cX12_best1 12 = .ok (.lconst 1, 1) := dk_10 (by decide +kernel)
theorem dX12_best1_13 : decode cX12_best1 13 = .ok (.invokevirtual 369, 3) := dk_182 (by decide +kernel)
theorem dX12_best1_16 : decode cX12_best1 16 = .ok (.aload_n 0, 1) := dk_42 (by decide +kernel)
theorem dX12_best1_17 : decode cX12_best1 17 = .ok (.sipush 1046, 3) := dk_17 (by decide +kernel)
theorem dX12_best1_20 : decode cX12_best1 20 = .ok (.lconst 0, 1) := dk_9 (by decide +kernel)
theorem dX12_best1_21 : decode cX12_best1 21 = .ok (.invokevirtual 369, 3) := dk_182 (by decide +kernel)
theorem dX12_best1_24 : decode cX12_best1 24 = .ok (.aload_n 0, 1) := dk_42 (by decide +kernel)
theorem dX12_best1_25 : decode cX12_best1 25 = .ok (.sipush 1047, 3) := dk_17 (by decide +kernel)
theorem dX12_best1_28 : decode cX12_best1 28 = .ok (.lconst 1, 1) := dk_10 (by decide +kernel)
theorem dX12_best1_29 : decode cX12_best1 29 = .ok (.invokevirtual 369, 3) := dk_182 (by decide +kernel)
theorem dX12_best1_32 : decode cX12_best1 32 = .ok (.aload_n 0, 1) := dk_42 (by decide +kernel)
theorem dX12_best1_33 : decode cX12_best1 33 = .ok (.getfield 805, 3) := dk_180 (by decide +kernel)
theorem dX12_best1_36 : decode cX12_best1 36 = .ok (.ifCond .ne 4, 3) := dk_154 (by decide +kernel)
theorem dX12_best1_39 : decode cX12_best1 39 = .ok (.return_, 1) := dk_177 (by decide +kernel)
theorem dX12_best1_40 : decode cX12_best1 40 = .ok (.aload_n 0, 1) := dk_42 (by decide +kernel)
theorem dX12_best1_41 : decode cX12_best1 41 = .ok (.sipush 1050, 3) := dk_17 (by decide +kernel)
theorem dX12_best1_44 : decode cX12_best1 44 = .ok (.sipush 1030, 3) := dk_17 (by decide +kernel)
theorem dX12_best1_47 : decode cX12_best1 47 = .ok (.invokevirtual 365, 3) := dk_182 (by decide +kernel)
theorem dX12_best1_50 : decode cX12_best1 50 = .ok (.aload_n 0, 1) := dk_42 (by decide +kernel)
theorem dX12_best1_51 : decode cX12_best1 51 = .ok (.sipush 1051, 3) := dk_17 (by decide +kernel)
theorem dX12_best1_54 : decode cX12_best1 54 = .ok (.sipush 1033, 3) := dk_17 (by decide +kernel)
theorem dX12_best1_57 : decode cX12_best1 57 = .ok (.invokevirtual 365, 3) := dk_182 (by decide +kernel)
theorem dX12_best1_60 : decode cX12_best1 60 = .ok (.aload_n 0, 1) := dk_42 (by decide +kernel)
theorem dX12_best1_61 : decode cX12_best1 61 = .ok (.getfield 218, 3) := dk_180 (by decide +kernel)
theorem dX12_best1_64 : decode cX12_best1 64 = .ok (.iconst 0, 1) := dk_3 (by decide +kernel)
theorem dX12_best1_65 : decode cX12_best1 65 = .ok (.iaload, 1) := dk_46 (by decide +kernel)
theorem dX12_best1_66 : decode cX12_best1 66 = .ok (.iconst 1, 1) := dk_4 (by decide +kernel)
theorem dX12_best1_67 : decode cX12_best1 67 = .ok (.if_icmp .ne 10, 3) := dk_160 (by decide +kernel)
theorem dX12_best1_70 : decode cX12_best1 70 = .ok (.aload_n 0, 1) := dk_42 (by decide +kernel)
theorem dX12_best1_71 : decode cX12_best1 71 = .ok (.sipush 1050, 3) := dk_17 (by decide +kernel)
theorem dX12_best1_74 : decode cX12_best1 74 = .ok (.invokevirtual 379, 3) := dk_182 (by decide +kernel)
theorem dX12_best1_77 : decode cX12_best1 77 = .ok (.aload_n 0, 1) := dk_42 (by decide +kernel)
theorem dX12_best1_78 : decode cX12_best1 78 = .ok (.bipush 10, 2) := dk_16 (by decide +kernel)
theorem dX12_best1_80 : decode cX12_best1 80 = .ok (.aload_n 0, 1) := dk_42 (by decide +kernel)
theorem dX12_best1_81 : decode cX12_best1 81 = .ok (.getfield 218, 3) := dk_180 (by decide +kernel)
theorem dX12_best1_84 : decode cX12_best1 84 = .ok (.iconst 0, 1) := dk_3 (by decide +kernel)
theorem dX12_best1_85 : decode cX12_best1 85 = .ok (.iaload, 1) := dk_46 (by decide +kernel)
theorem dX12_best1_86 : decode cX12_best1 86 = .ok (.iconst 1, 1) := dk_4 (by decide +kernel)
theorem dX12_best1_87 : decode cX12_best1 87 = .ok (.if_icmp .ne 14, 3) := dk_160 (by decide +kernel)
theorem dX12_best1_90 : decode cX12_best1 90 = .ok (.aload_n 0, 1) := dk_42 (by decide +kernel)
theorem dX12_best1_91 : decode cX12_best1 91 = .ok (.getfield 212, 3) := dk_180 (by decide +kernel)
theorem dX12_best1_94 : decode cX12_best1 94 = .ok (.iconst 0, 1) := dk_3 (by decide +kernel)
theorem dX12_best1_95 : decode cX12_best1 95 = .ok (.iaload, 1) := dk_46 (by decide +kernel)
theorem dX12_best1_96 : decode cX12_best1 96 = .ok (.ineg, 1) := dk_116 (by decide +kernel)
theorem dX12_best1_97 : decode cX12_best1 97 = .ok (.i2l, 1) := dk_133 (by decide +kernel)
theorem dX12_best1_98 : decode cX12_best1 98 = .ok (.goto 10, 3) := dk_167 (by decide +kernel)
theorem dX12_best1_101 : decode cX12_best1 101 = .ok (.aload_n 0, 1) := dk_42 (by decide +kernel)
theorem dX12_best1_102 : decode cX12_best1 102 = .ok (.getfield 212, 3) := dk_180 (by decide +kernel)
theorem dX12_best1_105 : decode cX12_best1 105 = .ok (.iconst 0, 1) := dk_3 (by decide +kernel)
theorem dX12_best1_106 : decode cX12_best1 106 = .ok (.iaload, 1) := dk_46 (by decide +kernel)
theorem dX12_best1_107 : decode cX12_best1 107 = .ok (.i2l, 1) := dk_133 (by decide +kernel)
theorem dX12_best1_108 : decode cX12_best1 108 = .ok (.invokevirtual 369, 3) := dk_182 (by decide +kernel)
theorem dX12_best1_111 : decode cX12_best1 111 = .ok (.aload_n 0, 1) := dk_42 (by decide +kernel)
theorem dX12_best1_112 : decode cX12_best1 112 = .ok (.bipush 11, 2) := dk_16 (by decide +kernel)
theorem dX12_best1_114 : decode cX12_best1 114 = .ok (.aload_n 0, 1) := dk_42 (by decide +kernel)
theorem dX12_best1_115 : decode cX12_best1 115 = .ok (.getfield 215, 3) := dk_180 (by decide +kernel)
theorem dX12_best1_118 : decode cX12_best1 118 = .ok (.iconst 0, 1) := dk_3 (by decide +kernel)
theorem dX12_best1_119 : decode cX12_best1 119 = .ok (.iaload, 1) := dk_46 (by decide +kernel)
theorem dX12_best1_120 : decode cX12_best1 120 = .ok (.i2l, 1) := dk_133 (by decide +kernel)
theorem dX12_best1_121 : decode cX12_best1 121 = .ok (.invokevirtual 369, 3) := dk_182 (by decide +kernel)
theorem dX12_best1_124 : decode cX12_best1 124 = .ok (.aload_n 0, 1) := dk_42 (by decide +kernel)
theorem dX12_best1_125 : decode cX12_best1 125 = .ok (.bipush 12, 2) := dk_16 (by decide +kernel)
theorem dX12_best1_127 : decode cX12_best1 127 = .ok (.sipush 1050, 3) := dk_17 (by decide +kernel)
theorem dX12_best1_130 : decode cX12_best1 130 = .ok (.bipush 11, 2) := dk_16 (by decide +kernel)
theorem dX12_best1_132 : decode cX12_best1 132 = .ok (.invokevirtual 390, 3) := dk_182 (by decide +kernel)
theorem dX12_best1_135 : decode cX12_best1 135 = .ok (.aload_n 0, 1) := dk_42 (by decide +kernel)
theorem dX12_best1_136 : decode cX12_best1 136 = .ok (.bipush 13, 2) := dk_16 (by decide +kernel)
theorem dX12_best1_138 : decode cX12_best1 138 = .ok (.bipush 10, 2) := dk_16 (by decide +kernel)
theorem dX12_best1_140 : decode cX12_best1 140 = .ok (.sipush 1051, 3) := dk_17 (by decide +kernel)
theorem dX12_best1_143 : decode cX12_best1 143 = .ok (.invokevirtual 390, 3) := dk_182 (by decide +kernel)
theorem dX12_best1_146 : decode cX12_best1 146 = .ok (.aload_n 0, 1) := dk_42 (by decide +kernel)
theorem dX12_best1_147 : decode cX12_best1 147 = .ok (.sipush 1046, 3) := dk_17 (by decide +kernel)
theorem dX12_best1_150 : decode cX12_best1 150 = .ok (.bipush 12, 2) := dk_16 (by decide +kernel)
theorem dX12_best1_152 : decode cX12_best1 152 = .ok (.bipush 13, 2) := dk_16 (by decide +kernel)
theorem dX12_best1_154 : decode cX12_best1 154 = .ok (.iconst (-1), 1) := dk_2 (by decide +kernel)
theorem dX12_best1_155 : decode cX12_best1 155 = .ok (.invokevirtual 443, 3) := dk_182 (by decide +kernel)
theorem dX12_best1_158 : decode cX12_best1 158 = .ok (.aload_n 0, 1) := dk_42 (by decide +kernel)
theorem dX12_best1_159 : decode cX12_best1 159 = .ok (.sipush 1047, 3) := dk_17 (by decide +kernel)
theorem dX12_best1_162 : decode cX12_best1 162 = .ok (.sipush 1051, 3) := dk_17 (by decide +kernel)
theorem dX12_best1_165 : decode cX12_best1 165 = .ok (.bipush 11, 2) := dk_16 (by decide +kernel)
theorem dX12_best1_167 : decode cX12_best1 167 = .ok (.invokevirtual 390, 3) := dk_182 (by decide +kernel)
theorem dX12_best1_170 : decode cX12_best1 170 = .ok (.aload_n 0, 1) := dk_42 (by decide +kernel)
theorem dX12_best1_171 : decode cX12_best1 171 = .ok (.sipush 1046, 3) := dk_17 (by decide +kernel)
theorem dX12_best1_174 : decode cX12_best1 174 = .ok (.sipush 1047, 3) := dk_17 (by decide +kernel)
theorem dX12_best1_177 : decode cX12_best1 177 = .ok (.invokevirtual 930, 3) := dk_182 (by decide +kernel)
theorem dX12_best1_180 : decode cX12_best1 180 = .ok (.aload_n 0, 1) := dk_42 (by decide +kernel)
theorem dX12_best1_181 : decode cX12_best1 181 = .ok (.sipush 1050, 3) := dk_17 (by decide +kernel)
theorem dX12_best1_184 : decode cX12_best1 184 = .ok (.sipush 1051, 3) := dk_17 (by decide +kernel)
theorem dX12_best1_187 : decode cX12_best1 187 = .ok (.invokevirtual 930, 3) := dk_182 (by decide +kernel)
theorem dX12_best1_190 : decode cX12_best1 190 = .ok (.return_, 1) := dk_177 (by decide +kernel)
def wsRX12_best1 : List Cond := .code yX12_best1 cX12_best1 1 none :: ([.fieldLink RX12 805 "OptimaWorksModel" "modelGoals" "I", .fieldLink RX12 218 "OptimaWorksModel" "goalMax" "[I", .fieldLink RX12 212 "OptimaWorksModel" "goalTop" "[I", .fieldLink RX12 215 "OptimaWorksModel" "goalUnder" "[I"] ++ wsX120 ++ (wsV RX12 369 RX12 yX12_put wsRX12_put) ++ (wsV RX12 365 RX12 yX12_copy wsRX12_copy) ++ (wsV RX12 379 RX12 yX12_turn wsRX12_turn) ++ (wsV RX12 390 RX12 yX12_times wsRX12_times) ++ (wsV RX12 443 RX12 yX12_add wsRX12_add) ++ (wsV RX12 930 RX12 yX12_shorten wsRX12_shorten))
theorem iwsRX12_best1_in12 : ∀ w ∈ wsX120, w ∈ wsRX12_best1 := fun _ h => List.mem_cons_of_mem _ (List.mem_append_left _ (List.mem_append_left _ (List.mem_append_left _ (List.mem_append_left _ (List.mem_append_left _ (List.mem_append_left _ (List.mem_append_right _ h)))))))
theorem gwsRX12_best1_0 : GoodIn wsRX12_best1 (wsV RX12 369 RX12 yX12_put wsRX12_put) := goodIn_sub (fun _ h => List.mem_cons_of_mem _ (List.mem_append_left _ (List.mem_append_left _ (List.mem_append_left _ (List.mem_append_left _ (List.mem_append_left _ (List.mem_append_right _ h))))))) (gdV (by decide +kernel) gdwsRX12_put)
theorem gwsRX12_best1_1 : GoodIn wsRX12_best1 (wsV RX12 365 RX12 yX12_copy wsRX12_copy) := goodIn_sub (fun _ h => List.mem_cons_of_mem _ (List.mem_append_left _ (List.mem_append_left _ (List.mem_append_left _ (List.mem_append_left _ (List.mem_append_right _ h)))))) (gdV (by decide +kernel) gdwsRX12_copy)
theorem gwsRX12_best1_2 : GoodIn wsRX12_best1 (wsV RX12 379 RX12 yX12_turn wsRX12_turn) := goodIn_sub (fun _ h => List.mem_cons_of_mem _ (List.mem_append_left _ (List.mem_append_left _ (List.mem_append_left _ (List.mem_append_right _ h))))) (gdV (by decide +kernel) gdwsRX12_turn)
theorem gwsRX12_best1_3 : GoodIn wsRX12_best1 (wsV RX12 390 RX12 yX12_times wsRX12_times) := goodIn_sub (fun _ h => List.mem_cons_of_mem _ (List.mem_append_left _ (List.mem_append_left _ (List.mem_append_right _ h)))) (gdV (by decide +kernel) gdwsRX12_times)
theorem gwsRX12_best1_4 : GoodIn wsRX12_best1 (wsV RX12 443 RX12 yX12_add wsRX12_add) := goodIn_sub (fun _ h => List.mem_cons_of_mem _ (List.mem_append_left _ (List.mem_append_right _ h))) (gdV (by decide +kernel) gdwsRX12_add)
theorem gwsRX12_best1_5 : GoodIn wsRX12_best1 (wsV RX12 930 RX12 yX12_shorten wsRX12_shorten) := goodIn_sub (fun _ h => List.mem_cons_of_mem _ (List.mem_append_right _ h)) (gdV (by decide +kernel) gdwsRX12_shorten)
theorem gdwsRX12_best1 : wsRX12_best1.all goodWord = true := gdC rfl (gdA (gdA (gdA (gdA (gdA (gdA (gdA (by decide +kernel : ([.fieldLink RX12 805 "OptimaWorksModel" "modelGoals" "I", .fieldLink RX12 218 "OptimaWorksModel" "goalMax" "[I", .fieldLink RX12 212 "OptimaWorksModel" "goalTop" "[I", .fieldLink RX12 215 "OptimaWorksModel" "goalUnder" "[I"] : List Cond).all goodWord = true) gdwsX120) (gdV (by decide +kernel) gdwsRX12_put)) (gdV (by decide +kernel) gdwsRX12_copy)) (gdV (by decide +kernel) gdwsRX12_turn)) (gdV (by decide +kernel) gdwsRX12_times)) (gdV (by decide +kernel) gdwsRX12_add)) (gdV (by decide +kernel) gdwsRX12_shorten))
theorem hm_r_X12_best1_0 : (.fieldLink RX12 218 "OptimaWorksModel" "goalMax" "[I" : Cond) ∈ wsRX12_best1 := by decide +kernel
theorem hm_r_X12_best1_1 : (.fieldLink RX12 212 "OptimaWorksModel" "goalTop" "[I" : Cond) ∈ wsRX12_best1 := by decide +kernel
set_option maxHeartbeats 4000000 in
set_option maxRecDepth 100000 in
/-- best1() -/
theorem r_X12_best1 (l : Launch) (dC : Nat → ClassId) (dI : Nat → Nat → Nat) (a : Nat → Nat) (k : Nat → ClassId) (h0 : Nat) (vi : Nat → Int32) (vj : Nat → Int64) (vF : Nat → Nat → Int32) (vG : Nat → Nat → Int64) (vn : Nat) (gq : Nat) (mg : Nat → Int) (hBg : Bg (vF 0) mg) (hmg : vi 93 = nI gq) (hgq : gq ≤ 3) (hM : MdlB vF gq) (h1 : ((mg 1030).natAbs < 2 ^ 209 ∧ (mg 1033).natAbs < 2 ^ 187 ∧ (0 < gq → 0 < mg 1033))) (sz : Nat) : Met l yX12_best1 wsRX12_best1 ({ frames := 4, cells := 0, slots := 0, locals := 107 }) (va_Pc [.ref h0] (fun U => U.heap.size = sz ∧ va_P (dC, dI) vwCl (WR a k h0 vi vj vF vG) U.heap ∧ va_K (dC, dI) vwCl (tX12 k) U ∧ va_D (fun _ => True) (WR a k h0 vi vj vF vG))) (va_Qv (fun (u : (Nat → Int32) × (Nat → Int32) × (Nat → Int32) × (Nat → Int64) × (Nat → Int)) => (Bg (u.1) (u.2.2.2.2)) ∧ (Sz 224 ((u.2.2.2.2) 1046) ∧ Sz 201 ((u.2.2.2.2) 1047)) ∧ (0 < (u.2.2.2.2) 1051) ∧ (∀ q, 1000 ≤ q → q ≠ 1046 → q ≠ 1047 → q ≠ 1050 → q ≠ 1051 → (u.2.2.2.2) q = mg q)) (fun (u : (Nat → Int32) × (Nat → Int32) × (Nat → Int32) × (Nat → Int64) × (Nat → Int)) t => va_P (dC, dI) vwCl (WR a k h0 vi vj (fT (fT (fT vF 0 (u.1)) 2 (u.2.1)) 3 (u.2.2.1)) (fT vG 1 (u.2.2.2.1))) t.heap ∧ va_D (va_A (WR a k h0 vi vj vF vG) sz) (WR a k h0 vi vj (fT (fT (fT vF 0 (u.1)) 2 (u.2.1)) 3 (u.2.2.1)) (fT vG 1 (u.2.2.2.1)))) (va_A (WR a k h0 vi vj vF vG) sz)) 0 0 (va_A (WR a k h0 vi vj vF vG) sz) := by
  refine Met.ofW (cc := cX12_best1) (maxL := 1) (ret := none) (by decide) rfl ?_
  intro p e s m args below meth c s₁ B hml hv
  obtain ⟨rfl, hsz, hP, hK, hD0⟩ := hv
  have hx := B.exec
  have hb := B.bytes
  have hr := B.returns
  have hts := atoms_spec (ws := wsRX12_best1) B.pre
  have hown : s.vm.findClass RX12 = some m.cls := findClass_of_methodNamed B.named
  have hlocks := B.notSynchronized
  subst hsz
  have hD := hD0.self (sz := s.heap.size)
  generalize hAe : va_A (WR a k h0 vi vj vF vG) s.heap.size = A at hD ⊢
  have hA : ∀ q : Nat, s.heap.size ≤ q → A q := fun q h => by rw [← hAe]; exact Or.inr h
  have hS : va_S A s.heap s.heap [] := va_S.rf
  have hl := lv_entry ([.ref h0]) (n := 1) (Nat.le_of_ble_eq_true rfl)
  rw [lg_entry_eq]
  generalize (lg_sl ([.ref h0]) ++ List.replicate (1 - (lg_sl ([.ref h0])).length) Slot.unset).toArray = ls at hl ⊢
  have hl : lv_has ls 1 [(0, .ref h0)] := hl
  refine lv_aload_n hx hb dX12_best1_0 rfl (lv_at hl 0 rfl) ?_
  refine lv_sipush (v := 1050) hx hb dX12_best1_1 (by decide) ?_
  refine lv_lconst (v := 0) hx hb dX12_best1_4 (by decide) ?_
  have hFc := allFree hD hS hA
  refine va_callv (va_runV (As := [.int 1050, .long 0]) (rest := []) ⟨hx, hb, hml, hown, hts⟩ (b_X12_put l dC dI a k h0 vi vj vF vG 1050 0 0 mg hBg (by first | with_reducible assumption | decide | omega | rfl | assumption) (by decide) (by first | with_reducible assumption | decide | omega | rfl | assumption) s.heap.size) (cwV 2 hts gwsRX12_best1_0 rfl rfl rfl hd_yX12_put_RX12 (by decide +kernel)) (fz_pre (va_recv hK hP (ci := 12) (q0 := 0) rfl rfl) hP hK hD) rfl rfl hl.1 rfl (lv_room (Nat.le_of_ble_eq_true rfl)) dX12_best1_5 (by decide +kernel)) hS (fun q _ h => hFc q h) hFc (fun g5 t9_ H locs ht hvm hw9 hB9 hz1 hk1 hS => ?_)
  have hP : va_P (dC, dI) vwCl (WR a k h0 vi vj (fT vF 0 g5) vG) H := fz_P ht hB9.1
  have hD := fz_sd hP (hB9.2.weaken (fun _ q _ h => hFc q.1 h)) rfl
  have f5_0 := hw9
  try dsimp only at f5_0
  refine lv_aload_n hx hb dX12_best1_8 rfl (lv_at hl 0 rfl) ?_
  refine lv_sipush (v := 1051) hx hb dX12_best1_9 (by decide) ?_
  refine lv_lconst (v := 1) hx hb dX12_best1_12 (by decide) ?_
  have hFc := allFree hD hS hA
  refine va_callv (va_runV (As := [.int 1051, .long 1]) (rest := []) ⟨hx, hb, hml, hown, hts⟩ (b_X12_put l dC dI a k h0 vi vj (fT vF 0 g5) vG 1051 1 1 (fT mg 1050 0) f5_0 (by first | with_reducible assumption | decide | omega | rfl | assumption) (by decide) (by first | with_reducible assumption | decide | omega | rfl | assumption) H.size) (cwV 2 hts gwsRX12_best1_0 rfl rfl rfl hd_yX12_put_RX12 (by decide +kernel)) (fz_pre (va_recv hK hP (ci := 12) (q0 := 0) rfl rfl) hP hK hD) rfl rfl hl.1 rfl (lv_room (Nat.le_of_ble_eq_true rfl)) dX12_best1_13 (by decide +kernel)) hS (fun q _ h => hFc q h) hFc (fun g13 t9_ H locs ht hvm hw9 hB9 hz1 hk1 hS => ?_)
  have e9F : fT vF 0 g13 = fT (fT vF 0 g5) 0 g13 := (fT_sm _ _ _ _).symm
  have hP := wr_PF e9F (fz_P ht hB9.1)
  have hD := wr_DF e9F (hB9.2.weaken (fun _ q _ h => hFc q.1 h))
  clear e9F
  have f13_0 := hw9
  try dsimp only at f13_0
  refine lv_aload_n hx hb dX12_best1_16 rfl (lv_at hl 0 rfl) ?_
  refine lv_sipush (v := 1046) hx hb dX12_best1_17 (by decide) ?_
  refine lv_lconst (v := 0) hx hb dX12_best1_20 (by decide) ?_
  have hFc := allFree hD hS hA
  refine va_callv (va_runV (As := [.int 1046, .long 0]) (rest := []) ⟨hx, hb, hml, hown, hts⟩ (b_X12_put l dC dI a k h0 vi vj (fT vF 0 g13) vG 1046 0 0 (fT (fT mg 1050 0) 1051 1) f13_0 (by first | with_reducible assumption | decide | omega | rfl | assumption) (by decide) (by first | with_reducible assumption | decide | omega | rfl | assumption) H.size) (cwV 2 hts gwsRX12_best1_0 rfl rfl rfl hd_yX12_put_RX12 (by decide +kernel)) (fz_pre (va_recv hK hP (ci := 12) (q0 := 0) rfl rfl) hP hK hD) rfl rfl hl.1 rfl (lv_room (Nat.le_of_ble_eq_true rfl)) dX12_best1_21 (by decide +kernel)) hS (fun q _ h => hFc q h) hFc (fun g21 t9_ H locs ht hvm hw9 hB9 hz1 hk1 hS => ?_)
  have e9F : fT vF 0 g21 = fT (fT vF 0 g13) 0 g21 := (fT_sm _ _ _ _).symm
  have hP := wr_PF e9F (fz_P ht hB9.1)
  have hD := wr_DF e9F (hB9.2.weaken (fun _ q _ h => hFc q.1 h))
  clear e9F
  have f21_0 := hw9
  try dsimp only at f21_0
  refine lv_aload_n hx hb dX12_best1_24 rfl (lv_at hl 0 rfl) ?_
  refine lv_sipush (v := 1047) hx hb dX12_best1_25 (by decide) ?_
  refine lv_lconst (v := 1) hx hb dX12_best1_28 (by decide) ?_
  have hFc := allFree hD hS hA
  refine va_callv (va_runV (As := [.int 1047, .long 1]) (rest := []) ⟨hx, hb, hml, hown, hts⟩ (b_X12_put l dC dI a k h0 vi vj (fT vF 0 g21) vG 1047 1 1 (fT (fT (fT mg 1050 0) 1051 1) 1046 0) f21_0 (by first | with_reducible assumption | decide | omega | rfl | assumption) (by decide) (by first | with_reducible assumption | decide | omega | rfl | assumption) H.size) (cwV 2 hts gwsRX12_best1_0 rfl rfl rfl hd_yX12_put_RX12 (by decide +kernel)) (fz_pre (va_recv hK hP (ci := 12) (q0 := 0) rfl rfl) hP hK hD) rfl rfl hl.1 rfl (lv_room (Nat.le_of_ble_eq_true rfl)) dX12_best1_29 (by decide +kernel)) hS (fun q _ h => hFc q h) hFc (fun g29 t9_ H locs ht hvm hw9 hB9 hz1 hk1 hS => ?_)
  have e9F : fT vF 0 g29 = fT (fT vF 0 g21) 0 g29 := (fT_sm _ _ _ _).symm
  have hP := wr_PF e9F (fz_P ht hB9.1)
  have hD := wr_DF e9F (hB9.2.weaken (fun _ q _ h => hFc q.1 h))
  clear e9F
  have f29_0 := hw9
  try dsimp only at f29_0
  refine lv_aload_n hx hb dX12_best1_32 rfl (lv_at hl 0 rfl) ?_
  refine va_get (D := (dC, dI)) (ci := 12) (v := .int (vi 93)) (C := RX12) (T := TX12) (N := 163) (fs := fM (vS a vi vj)) hx hb hts iwsRX12_best1_in12 hown hK hP 0 rfl rfl 93 (by decide) (hts (.fieldLink RX12 805 "OptimaWorksModel" "modelGoals" "I") (by decide +kernel)) (fun _ h9 => h9) rfl dX12_best1_33 ?_
  refine lv_topi (fun y1 hy1 => ?_)
  obtain rfl : (nI gq) = y1 := (hy1.trans (hmg)).symm
  refine lv_if_ne (tgt := 40) hx hb dX12_best1_36 (by decide) (fun c_36 => ?_) (fun c_36 => ?_)
  · have t_36 : ((gq : Nat) : Int) ≠ 0 := toI_ne c_36 (nI_toInt (by omega)) (by decide)
    have hg0 : 0 < gq := by omega
    obtain ⟨h1a, h1b, h1c⟩ := h1
    have bt := hM.top hg0 (k := 0) (by omega)
    have bu := hM.under hg0 (k := 0) (by omega)
    rw [if_pos rfl] at bt bu
    have hp33 := h1c hg0
    simp only [Nat.mul_zero, Nat.add_zero] at bt bu
    refine lv_aload_n hx hb dX12_best1_40 rfl (lv_at hl 0 rfl) ?_
    refine lv_sipush (v := 1050) hx hb dX12_best1_41 (by decide) ?_
    refine lv_sipush (v := 1030) hx hb dX12_best1_44 (by decide) ?_
    have hFc := allFree hD hS hA
    refine va_callv (va_runV (As := [.int 1050, .int 1030]) (rest := []) ⟨hx, hb, hml, hown, hts⟩ (b_X12_copy l dC dI a k h0 vi vj (fT vF 0 g29) vG 1050 1030 (fT (fT (fT (fT mg 1050 0) 1051 1) 1046 0) 1047 1) f29_0 (mg 1030) (by rw [fT_ne _ _ (by omega), fT_ne _ _ (by omega), fT_ne _ _ (by omega), fT_ne _ _ (by omega)]) (by first | with_reducible assumption | decide | omega | rfl | assumption) (by first | with_reducible assumption | decide | omega | rfl | assumption) (by first | with_reducible assumption | decide | omega | rfl | assumption) H.size) (cwV 2 hts gwsRX12_best1_1 rfl rfl rfl hd_yX12_copy_RX12 (by decide +kernel)) (fz_pre (va_recv hK hP (ci := 12) (q0 := 0) rfl rfl) hP hK hD) rfl rfl hl.1 rfl (lv_room (Nat.le_of_ble_eq_true rfl)) dX12_best1_47 (by decide +kernel)) hS (fun q _ h => hFc q h) hFc (fun g47 t9_ H locs ht hvm hw9 hB9 hz1 hk1 hS => ?_)
    have e9F : fT vF 0 g47 = fT (fT vF 0 g29) 0 g47 := (fT_sm _ _ _ _).symm
    have hP := wr_PF e9F (fz_P ht hB9.1)
    have hD := wr_DF e9F (hB9.2.weaken (fun _ q _ h => hFc q.1 h))
    clear e9F
    have f47_0 := hw9
    try dsimp only at f47_0
    refine lv_aload_n hx hb dX12_best1_50 rfl (lv_at hl 0 rfl) ?_
    refine lv_sipush (v := 1051) hx hb dX12_best1_51 (by decide) ?_
    refine lv_sipush (v := 1033) hx hb dX12_best1_54 (by decide) ?_
    have hFc := allFree hD hS hA
    refine va_callv (va_runV (As := [.int 1051, .int 1033]) (rest := []) ⟨hx, hb, hml, hown, hts⟩ (b_X12_copy l dC dI a k h0 vi vj (fT vF 0 g47) vG 1051 1033 (fT (fT (fT (fT (fT mg 1050 0) 1051 1) 1046 0) 1047 1) 1050 (mg 1030)) f47_0 (mg 1033) (by rw [fT_ne _ _ (by omega), fT_ne _ _ (by omega), fT_ne _ _ (by omega), fT_ne _ _ (by omega), fT_ne _ _ (by omega)]) (by first | with_reducible assumption | decide | omega | rfl | assumption) (by first | with_reducible assumption | decide | omega | rfl | assumption) (by first | with_reducible assumption | decide | omega | rfl | assumption) H.size) (cwV 2 hts gwsRX12_best1_1 rfl rfl rfl hd_yX12_copy_RX12 (by decide +kernel)) (fz_pre (va_recv hK hP (ci := 12) (q0 := 0) rfl rfl) hP hK hD) rfl rfl hl.1 rfl (lv_room (Nat.le_of_ble_eq_true rfl)) dX12_best1_57 (by decide +kernel)) hS (fun q _ h => hFc q h) hFc (fun g57 t9_ H locs ht hvm hw9 hB9 hz1 hk1 hS => ?_)
    have e9F : fT vF 0 g57 = fT (fT vF 0 g47) 0 g57 := (fT_sm _ _ _ _).symm
    have hP := wr_PF e9F (fz_P ht hB9.1)
    have hD := wr_DF e9F (hB9.2.weaken (fun _ q _ h => hFc q.1 h))
    clear e9F
    have f57_0 := hw9
    try dsimp only at f57_0
    refine lv_aload_n hx hb dX12_best1_60 rfl (lv_at hl 0 rfl) ?_
    refine va_get (D := (dC, dI)) (ci := 12) (v := .ref (a 65)) (C := RX12) (T := TX12) (N := 163) (fs := fM (vS a vi vj)) hx hb hts iwsRX12_best1_in12 hown hK hP 0 rfl rfl 105 (by decide) (hts _ hm_r_X12_best1_0) (fun _ h9 => h9) rfl dX12_best1_61 ?_
    refine lv_iconst (v := 0) hx hb dX12_best1_64 (by decide) ?_
    refine va_iald (cA := k 65) (n := 3) (f := (vF 65)) hx hb hK hP 66 65 (WR_get 65 (by decide)) (TR_get 65 (by decide)) (show ¬ ((0 : Int32) < 0 ∨ 3 ≤ (0 : Int32).toNatClampNeg) by decide) dX12_best1_65 ?_
    refine lv_topi (fun y2 hy2 => ?_)
    obtain rfl : ((vF 65) 0) = y2 := (hy2.trans (rfl)).symm
    refine lv_iconst (v := 1) hx hb dX12_best1_66 (by decide) ?_
    refine W.cut (pc := 77) (fun H locs ls stk => ∃ (gB : Nat → Int32) (mB : Nat → Int) (x50 : Int), (Bg gB mB) ∧ (mB 1050 = x50) ∧ (x50.natAbs < 2 ^ 209) ∧ (mB 1051 = mg 1033) ∧ (∀ q, (q < 1046 ∨ (1047 < q ∧ q < 1050) ∨ 1051 < q) → mB q = mg q) ∧  stk = [] ∧ va_P (dC, dI) vwCl (WR a k h0 vi vj (fT vF 0 gB) vG) H ∧ va_D A (WR a k h0 vi vj (fT vF 0 gB) vG) ∧ va_S A s.heap H locs ∧ lv_has ls 1 [(0, .ref h0)]) (fun join1 => ?_) ?_
    · refine lv_icmp_ne (tgt := 77) hx hb dX12_best1_67 (by decide) (fun c_67 => ?_) (fun c_67 => ?_)
      · have t_67 : (((vF 65) 0)).toInt ≠ 1 := toI_ne c_67 rfl (by decide)
        have hl : lv_has _ _ ([(0, .ref h0)]) := lv_sub hl [0] rfl
        exact join1 _ _ _ _ ⟨g57, (fT (fT (fT (fT (fT (fT mg 1050 0) 1051 1) 1046 0) 1047 1) 1050 (mg 1030)) 1051 (mg 1033)), (mg 1030), f57_0, (by rw [fT_ne _ _ (by omega), fT_eq]), h1a, (by rw [fT_eq]), fun q hq => by (rw [fT_ne _ _ (by omega), fT_ne _ _ (by omega), fT_ne _ _ (by omega), fT_ne _ _ (by omega), fT_ne _ _ (by omega), fT_ne _ _ (by omega)]), rfl, hP, hD, hS, hl⟩
      · have t_67 : (((vF 65) 0)).toInt = 1 := toI_nne c_67 rfl (by decide)
        refine lv_aload_n hx hb dX12_best1_70 rfl (lv_at hl 0 rfl) ?_
        refine lv_sipush (v := 1050) hx hb dX12_best1_71 (by decide) ?_
        have hFc := allFree hD hS hA
        refine va_callv (va_runV (As := [.int 1050]) (rest := []) ⟨hx, hb, hml, hown, hts⟩ (b_X12_turn l dC dI a k h0 vi vj (fT vF 0 g57) vG 1050 (fT (fT (fT (fT (fT (fT mg 1050 0) 1051 1) 1046 0) 1047 1) 1050 (mg 1030)) 1051 (mg 1033)) f57_0 (mg 1030) (by rw [fT_ne _ _ (by omega), fT_eq]) (by first | with_reducible assumption | decide | omega | rfl | assumption) H.size) (cwV 1 hts gwsRX12_best1_2 rfl rfl rfl hd_yX12_turn_RX12 (by decide +kernel)) (fz_pre (va_recv hK hP (ci := 12) (q0 := 0) rfl rfl) hP hK hD) rfl rfl hl.1 rfl (lv_room (Nat.le_of_ble_eq_true rfl)) dX12_best1_74 (by decide +kernel)) hS (fun q _ h => hFc q h) hFc (fun u t9_ H locs ht hvm hw9 hB9 hz1 hk1 hS => ?_)
        have e9F : fT vF 0 (upd g57 (nI (24 * 1050)).toNatClampNeg (-(g57 (24 * 1050)))) = fT (fT vF 0 g57) 0 (upd g57 (nI (24 * 1050)).toNatClampNeg (-(g57 (24 * 1050)))) := (fT_sm _ _ _ _).symm
        have hP := wr_PF e9F (fz_P ht hB9.1)
        have hD := wr_DF e9F (hB9.2.weaken (fun _ q _ h => hFc q.1 h))
        clear e9F
        have f74_0 := hw9
        try dsimp only at f74_0
        have f74_0 : Bg (upd g57 (nI (24 * 1050)).toNatClampNeg (-(g57 (24 * 1050)))) (fT (fT (fT (fT (fT (fT (fT mg 1050 0) 1051 1) 1046 0) 1047 1) 1050 (mg 1030)) 1051 (mg 1033)) 1050 (-(mg 1030))) := f74_0
        have hl : lv_has _ _ ([(0, .ref h0)]) := lv_sub hl [0] rfl
        exact join1 _ _ _ _ ⟨(upd g57 (nI (24 * 1050)).toNatClampNeg (-(g57 (24 * 1050)))), (fT (fT (fT (fT (fT (fT (fT mg 1050 0) 1051 1) 1046 0) 1047 1) 1050 (mg 1030)) 1051 (mg 1033)) 1050 (-(mg 1030))), (-(mg 1030)), f74_0, (by rw [fT_eq]), by rw [Int.natAbs_neg]; exact h1a, (by rw [fT_ne _ _ (by omega), fT_eq]), fun q hq => by (rw [fT_ne _ _ (by omega), fT_ne _ _ (by omega), fT_ne _ _ (by omega), fT_ne _ _ (by omega), fT_ne _ _ (by omega), fT_ne _ _ (by omega), fT_ne _ _ (by omega)]), rfl, hP, hD, hS, hl⟩
    · rintro H locs ls stk ⟨gB, mB, x50, hBB, v_x50, h50, h51, hoB, rfl, hP, hD, hS, hl⟩
      refine lv_aload_n hx hb dX12_best1_77 rfl (lv_at hl 0 rfl) ?_
      refine lv_bipush (v := 10) hx hb dX12_best1_78 (by decide) ?_
      refine lv_aload_n hx hb dX12_best1_80 rfl (lv_at hl 0 rfl) ?_
      refine va_get (D := (dC, dI)) (ci := 12) (v := .ref (a 65)) (C := RX12) (T := TX12) (N := 163) (fs := fM (vS a vi vj)) hx hb hts iwsRX12_best1_in12 hown hK hP 0 rfl rfl 105 (by decide) (hts _ hm_r_X12_best1_0) (fun _ h9 => h9) rfl dX12_best1_81 ?_
      refine lv_iconst (v := 0) hx hb dX12_best1_84 (by decide) ?_
      refine va_iald (cA := k 65) (n := 3) (f := (vF 65)) hx hb hK hP 66 65 (WR_get 65 (by decide)) (TR_get 65 (by decide)) (show ¬ ((0 : Int32) < 0 ∨ 3 ≤ (0 : Int32).toNatClampNeg) by decide) dX12_best1_85 ?_
      refine lv_topi (fun y3 hy3 => ?_)
      obtain rfl : ((vF 65) 0) = y3 := (hy3.trans (rfl)).symm
      refine lv_iconst (v := 1) hx hb dX12_best1_86 (by decide) ?_
      refine W.cut (pc := 108) (fun H locs ls stk => ∃ (tv : Int64), (tv.toInt.natAbs ≤ 9999) ∧  stk = [.long tv, .int 10, .ref h0] ∧ va_P (dC, dI) vwCl (WR a k h0 vi vj (fT vF 0 gB) vG) H ∧ va_D A (WR a k h0 vi vj (fT vF 0 gB) vG) ∧ va_S A s.heap H locs ∧ lv_has ls 1 [(0, .ref h0)]) (fun join2 => ?_) ?_
      · refine lv_icmp_ne (tgt := 101) hx hb dX12_best1_87 (by decide) (fun c_87 => ?_) (fun c_87 => ?_)
        · have t_87 : (((vF 65) 0)).toInt ≠ 1 := toI_ne c_87 rfl (by decide)
          refine lv_aload_n hx hb dX12_best1_101 rfl (lv_at hl 0 rfl) ?_
          refine va_get (D := (dC, dI)) (ci := 12) (v := .ref (a 63)) (C := RX12) (T := TX12) (N := 163) (fs := fM (vS a vi vj)) hx hb hts iwsRX12_best1_in12 hown hK hP 0 rfl rfl 103 (by decide) (hts _ hm_r_X12_best1_1) (fun _ h9 => h9) rfl dX12_best1_102 ?_
          refine lv_iconst (v := 0) hx hb dX12_best1_105 (by decide) ?_
          refine va_iald (cA := k 63) (n := 27) (f := (vF 63)) hx hb hK hP 64 63 (WR_get 63 (by decide)) (TR_get 63 (by decide)) (show ¬ ((0 : Int32) < 0 ∨ 27 ≤ (0 : Int32).toNatClampNeg) by decide) dX12_best1_106 ?_
          refine lv_topi (fun y4 hy4 => ?_)
          obtain rfl : ((vF 63) 0) = y4 := (hy4.trans (rfl)).symm
          refine lv_i2l hx hb dX12_best1_107 rfl ?_
          have hl : lv_has _ _ ([(0, .ref h0)]) := lv_sub hl [0] rfl
          exact join2 _ _ _ _ ⟨(((vF 63) 0)).toInt64, by rw [i64T]; omega, rfl, hP, hD, hS, hl⟩
        · have t_87 : (((vF 65) 0)).toInt = 1 := toI_nne c_87 rfl (by decide)
          refine lv_aload_n hx hb dX12_best1_90 rfl (lv_at hl 0 rfl) ?_
          refine va_get (D := (dC, dI)) (ci := 12) (v := .ref (a 63)) (C := RX12) (T := TX12) (N := 163) (fs := fM (vS a vi vj)) hx hb hts iwsRX12_best1_in12 hown hK hP 0 rfl rfl 103 (by decide) (hts _ hm_r_X12_best1_1) (fun _ h9 => h9) rfl dX12_best1_91 ?_
          refine lv_iconst (v := 0) hx hb dX12_best1_94 (by decide) ?_
          refine va_iald (cA := k 63) (n := 27) (f := (vF 63)) hx hb hK hP 64 63 (WR_get 63 (by decide)) (TR_get 63 (by decide)) (show ¬ ((0 : Int32) < 0 ∨ 27 ≤ (0 : Int32).toNatClampNeg) by decide) dX12_best1_95 ?_
          refine lv_topi (fun y5 hy5 => ?_)
          obtain rfl : ((vF 63) 0) = y5 := (hy5.trans (rfl)).symm
          refine lv_ineg hx hb dX12_best1_96 ?_
          refine lv_i2l hx hb dX12_best1_97 rfl ?_
          refine lv_goto (tgt := 108) hx hb dX12_best1_98 (by decide) ?_
          have hl : lv_has _ _ ([(0, .ref h0)]) := lv_sub hl [0] rfl
          exact join2 _ _ _ _ ⟨((-((vF 63) 0))).toInt64, by rw [i64T]; exact (neg32 (b := 9999) (by omega) (by decide)).1, rfl, hP, hD, hS, hl⟩
      · rintro H locs ls stk ⟨tv, htv, rfl, hP, hD, hS, hl⟩
        have hFc := allFree hD hS hA
        refine va_callv (va_runV (As := [.int 10, .long tv]) (rest := []) ⟨hx, hb, hml, hown, hts⟩ (b_X12_put l dC dI a k h0 vi vj (fT vF 0 gB) vG 10 tv ((tv).toInt) mB hBB (by first | with_reducible assumption | decide | omega | rfl | assumption) (rfl) (by omega) H.size) (cwV 2 hts gwsRX12_best1_0 rfl rfl rfl hd_yX12_put_RX12 (by decide +kernel)) (fz_pre (va_recv hK hP (ci := 12) (q0 := 0) rfl rfl) hP hK hD) rfl rfl hl.1 rfl (lv_room (Nat.le_of_ble_eq_true rfl)) dX12_best1_108 (by decide +kernel)) hS (fun q _ h => hFc q h) hFc (fun g108 t9_ H locs ht hvm hw9 hB9 hz1 hk1 hS => ?_)
        have e9F : fT vF 0 g108 = fT (fT vF 0 gB) 0 g108 := (fT_sm _ _ _ _).symm
        have hP := wr_PF e9F (fz_P ht hB9.1)
        have hD := wr_DF e9F (hB9.2.weaken (fun _ q _ h => hFc q.1 h))
        clear e9F
        have f108_0 := hw9
        try dsimp only at f108_0
        refine lv_aload_n hx hb dX12_best1_111 rfl (lv_at hl 0 rfl) ?_
        refine lv_bipush (v := 11) hx hb dX12_best1_112 (by decide) ?_
        refine lv_aload_n hx hb dX12_best1_114 rfl (lv_at hl 0 rfl) ?_
        refine va_get (D := (dC, dI)) (ci := 12) (v := .ref (a 64)) (C := RX12) (T := TX12) (N := 163) (fs := fM (vS a vi vj)) hx hb hts iwsRX12_best1_in12 hown hK hP 0 rfl rfl 104 (by decide) (hts (.fieldLink RX12 215 "OptimaWorksModel" "goalUnder" "[I") (by decide +kernel)) (fun _ h9 => h9) rfl dX12_best1_115 ?_
        refine lv_iconst (v := 0) hx hb dX12_best1_118 (by decide) ?_
        refine va_iald (cA := k 64) (n := 27) (f := (vF 64)) hx hb hK hP 65 64 (WR_get 64 (by decide)) (TR_get 64 (by decide)) (show ¬ ((0 : Int32) < 0 ∨ 27 ≤ (0 : Int32).toNatClampNeg) by decide) dX12_best1_119 ?_
        refine lv_topi (fun y6 hy6 => ?_)
        obtain rfl : ((vF 64) 0) = y6 := (hy6.trans (rfl)).symm
        refine lv_i2l hx hb dX12_best1_120 rfl ?_
        have hFc := allFree hD hS hA
        refine va_callv (va_runV (As := [.int 11, .long (((vF 64) 0)).toInt64]) (rest := []) ⟨hx, hb, hml, hown, hts⟩ (b_X12_put l dC dI a k h0 vi vj (fT vF 0 g108) vG 11 ((((vF 64) 0)).toInt64) ((vF 64 0).toInt) (fT mB 10 ((tv).toInt)) f108_0 (by first | with_reducible assumption | decide | omega | rfl | assumption) (i64T _) (by omega) H.size) (cwV 2 hts gwsRX12_best1_0 rfl rfl rfl hd_yX12_put_RX12 (by decide +kernel)) (fz_pre (va_recv hK hP (ci := 12) (q0 := 0) rfl rfl) hP hK hD) rfl rfl hl.1 rfl (lv_room (Nat.le_of_ble_eq_true rfl)) dX12_best1_121 (by decide +kernel)) hS (fun q _ h => hFc q h) hFc (fun g121 t9_ H locs ht hvm hw9 hB9 hz1 hk1 hS => ?_)
        have e9F : fT vF 0 g121 = fT (fT vF 0 g108) 0 g121 := (fT_sm _ _ _ _).symm
        have hP := wr_PF e9F (fz_P ht hB9.1)
        have hD := wr_DF e9F (hB9.2.weaken (fun _ q _ h => hFc q.1 h))
        clear e9F
        have f121_0 := hw9
        try dsimp only at f121_0
        have s11 : Sz 14 (vF 64 0).toInt := by show _ < 2 ^ 14; exact Nat.lt_of_le_of_lt bu.2 (by decide)
        have s10 : Sz 14 tv.toInt := by show _ < 2 ^ 14; exact Nat.lt_of_le_of_lt htv (by decide)
        have s12 : Sz 223 (x50 * (vF 64 0).toInt) := mulp h50 s11 (by decide)
        have h1b5 : (mB 1051).natAbs < 2 ^ 187 := by rw [h51]; exact h1b
        have hp51 : 0 < mB 1051 := by rw [h51]; exact hp33
        have s13 : Sz 201 (tv.toInt * mB 1051) := mulp s10 h1b5 (by decide)
        have s47 : Sz 201 (mB 1051 * (vF 64 0).toInt) := mulp h1b5 s11 (by decide)
        have s46 : Sz 224 (x50 * (vF 64 0).toInt + -1 * (tv.toInt * mB 1051)) := sub224 s12 s13
        have n47 : mB 1051 * (vF 64 0).toInt ≠ 0 := by have := Int.mul_pos hp51 (show 0 < (vF 64 0).toInt by omega); omega
        refine lv_aload_n hx hb dX12_best1_124 rfl (lv_at hl 0 rfl) ?_
        refine lv_bipush (v := 12) hx hb dX12_best1_125 (by decide) ?_
        refine lv_sipush (v := 1050) hx hb dX12_best1_127 (by decide) ?_
        refine lv_bipush (v := 11) hx hb dX12_best1_130 (by decide) ?_
        have hFc := allFree hD hS hA
        refine va_callv (va_runV (As := [.int 12, .int 1050, .int 11]) (rest := []) ⟨hx, hb, hml, hown, hts⟩ (b_X12_times l dC dI a k h0 vi vj (fT vF 0 g121) vG 12 1050 11 (fT (fT mB 10 ((tv).toInt)) 11 ((vF 64 0).toInt)) f121_0 x50 ((vF 64 0).toInt) (by rw [fT_ne _ _ (by omega), fT_ne _ _ (by omega), v_x50]) (by rw [fT_eq]) (by first | with_reducible assumption | decide | omega | rfl | assumption) (by first | with_reducible assumption | decide | omega | rfl | assumption) (by first | with_reducible assumption | decide | omega | rfl | assumption) (mulpN (c := 588) h50 s11 (by decide)) H.size) (cwV 3 hts gwsRX12_best1_3 rfl rfl rfl hd_yX12_times_RX12 (by decide +kernel)) (fz_pre (va_recv hK hP (ci := 12) (q0 := 0) rfl rfl) hP hK hD) rfl rfl hl.1 rfl (lv_room (Nat.le_of_ble_eq_true rfl)) dX12_best1_132 (by decide +kernel)) hS (fun q _ h => hFc q h) hFc (fun u t9_ H locs ht hvm hw9 hB9 hz1 hk1 hS => ?_)
        revert u hw9 hB9
        refine fz_p2 ?_
        intro g132 gs132 hw9 hB9
        try dsimp only at hw9 hB9
        have e9F : fT vF 0 g132 = fT (fT vF 0 g121) 0 g132 := (fT_sm _ _ _ _).symm
        have hP := wr_PF e9F (fz_P ht hB9.1)
        have hD := wr_DF e9F (hB9.2.weaken (fun _ q _ h => hFc q.1 h))
        clear e9F
        have f132_0 := hw9
        try dsimp only at f132_0
        refine lv_aload_n hx hb dX12_best1_135 rfl (lv_at hl 0 rfl) ?_
        refine lv_bipush (v := 13) hx hb dX12_best1_136 (by decide) ?_
        refine lv_bipush (v := 10) hx hb dX12_best1_138 (by decide) ?_
        refine lv_sipush (v := 1051) hx hb dX12_best1_140 (by decide) ?_
        have hFc := allFree hD hS hA
        refine va_callv (va_runV (As := [.int 13, .int 10, .int 1051]) (rest := []) ⟨hx, hb, hml, hown, hts⟩ (b_X12_times l dC dI a k h0 vi vj (fT vF 0 g132) (fT vG 1 gs132) 13 10 1051 (fT (fT (fT mB 10 ((tv).toInt)) 11 ((vF 64 0).toInt)) 12 (x50 * ((vF 64 0).toInt))) f132_0 ((tv).toInt) (mB 1051) (by rw [fT_ne _ _ (by omega), fT_ne _ _ (by omega), fT_eq]) (by rw [fT_ne _ _ (by omega), fT_ne _ _ (by omega), fT_ne _ _ (by omega)]) (by first | with_reducible assumption | decide | omega | rfl | assumption) (by first | with_reducible assumption | decide | omega | rfl | assumption) (by first | with_reducible assumption | decide | omega | rfl | assumption) (mulpN (c := 588) s10 h1b5 (by decide)) H.size) (cwV 3 hts gwsRX12_best1_3 rfl rfl rfl hd_yX12_times_RX12 (by decide +kernel)) (fz_pre (va_recv hK hP (ci := 12) (q0 := 0) rfl rfl) hP hK hD) rfl rfl hl.1 rfl (lv_room (Nat.le_of_ble_eq_true rfl)) dX12_best1_143 (by decide +kernel)) hS (fun q _ h => hFc q h) hFc (fun u t9_ H locs ht hvm hw9 hB9 hz1 hk1 hS => ?_)
        revert u hw9 hB9
        refine fz_p2 ?_
        intro g143 gs143 hw9 hB9
        try dsimp only at hw9 hB9
        have e9F : fT vF 0 g143 = fT (fT vF 0 g132) 0 g143 := (fT_sm _ _ _ _).symm
        have e9G : fT vG 1 gs143 = fT (fT vG 1 gs132) 1 gs143 := (fT_sm _ _ _ _).symm
        have hP := wr_PG e9G (wr_PF e9F (fz_P ht hB9.1))
        have hD := wr_DG e9G (wr_DF e9F (hB9.2.weaken (fun _ q _ h => hFc q.1 h)))
        clear e9F e9G
        have f143_0 := hw9
        try dsimp only at f143_0
        refine lv_aload_n hx hb dX12_best1_146 rfl (lv_at hl 0 rfl) ?_
        refine lv_sipush (v := 1046) hx hb dX12_best1_147 (by decide) ?_
        refine lv_bipush (v := 12) hx hb dX12_best1_150 (by decide) ?_
        refine lv_bipush (v := 13) hx hb dX12_best1_152 (by decide) ?_
        refine lv_iconst (v := (-1)) hx hb dX12_best1_154 (by decide) ?_
        have hFc := allFree hD hS hA
        refine va_callv (va_runV (As := [.int 1046, .int 12, .int 13, .int (-1)]) (rest := []) ⟨hx, hb, hml, hown, hts⟩ (b_X12_add l dC dI a k h0 vi vj (fT vF 0 g143) (fT vG 1 gs143) 1046 (-1) (-1) 12 13 (fT (fT (fT (fT mB 10 ((tv).toInt)) 11 ((vF 64 0).toInt)) 12 (x50 * ((vF 64 0).toInt))) 13 (((tv).toInt) * (mB 1051))) f143_0 (x50 * ((vF 64 0).toInt)) (((tv).toInt) * (mB 1051)) (by rw [fT_ne _ _ (by omega), fT_eq]) (by rw [fT_eq]) (by first | with_reducible assumption | decide | omega | rfl | assumption) (by first | with_reducible assumption | decide | omega | rfl | assumption) (by first | with_reducible assumption | decide | omega | rfl | assumption) (Or.inr ⟨rfl, rfl⟩) (lift616 (k := 224) s46 (by decide)) H.size) (cwV 4 hts gwsRX12_best1_4 rfl rfl rfl hd_yX12_add_RX12 (by decide +kernel)) (fz_pre (va_recv hK hP (ci := 12) (q0 := 0) rfl rfl) hP hK hD) rfl rfl hl.1 rfl (lv_room (Nat.le_of_ble_eq_true rfl)) dX12_best1_155 (by decide +kernel)) hS (fun q _ h => hFc q h) hFc (fun u t9_ H locs ht hvm hw9 hB9 hz1 hk1 hS => ?_)
        revert u hw9 hB9
        refine fz_p2 ?_
        intro g155 gs155 hw9 hB9
        try dsimp only at hw9 hB9
        have e9F : fT vF 0 g155 = fT (fT vF 0 g143) 0 g155 := (fT_sm _ _ _ _).symm
        have e9G : fT vG 1 gs155 = fT (fT vG 1 gs143) 1 gs155 := (fT_sm _ _ _ _).symm
        have hP := wr_PG e9G (wr_PF e9F (fz_P ht hB9.1))
        have hD := wr_DG e9G (wr_DF e9F (hB9.2.weaken (fun _ q _ h => hFc q.1 h)))
        clear e9F e9G
        have f155_0 := hw9
        try dsimp only at f155_0
        refine lv_aload_n hx hb dX12_best1_158 rfl (lv_at hl 0 rfl) ?_
        refine lv_sipush (v := 1047) hx hb dX12_best1_159 (by decide) ?_
        refine lv_sipush (v := 1051) hx hb dX12_best1_162 (by decide) ?_
        refine lv_bipush (v := 11) hx hb dX12_best1_165 (by decide) ?_
        have hFc := allFree hD hS hA
        refine va_callv (va_runV (As := [.int 1047, .int 1051, .int 11]) (rest := []) ⟨hx, hb, hml, hown, hts⟩ (b_X12_times l dC dI a k h0 vi vj (fT vF 0 g155) (fT vG 1 gs155) 1047 1051 11 (fT (fT (fT (fT (fT mB 10 ((tv).toInt)) 11 ((vF 64 0).toInt)) 12 (x50 * ((vF 64 0).toInt))) 13 (((tv).toInt) * (mB 1051))) 1046 ((x50 * ((vF 64 0).toInt)) + (-1) * (((tv).toInt) * (mB 1051)))) f155_0 (mB 1051) ((vF 64 0).toInt) (by rw [fT_ne _ _ (by omega), fT_ne _ _ (by omega), fT_ne _ _ (by omega), fT_ne _ _ (by omega), fT_ne _ _ (by omega)]) (by rw [fT_ne _ _ (by omega), fT_ne _ _ (by omega), fT_ne _ _ (by omega), fT_eq]) (by first | with_reducible assumption | decide | omega | rfl | assumption) (by first | with_reducible assumption | decide | omega | rfl | assumption) (by first | with_reducible assumption | decide | omega | rfl | assumption) (mulpN (c := 588) h1b5 s11 (by decide)) H.size) (cwV 3 hts gwsRX12_best1_3 rfl rfl rfl hd_yX12_times_RX12 (by decide +kernel)) (fz_pre (va_recv hK hP (ci := 12) (q0 := 0) rfl rfl) hP hK hD) rfl rfl hl.1 rfl (lv_room (Nat.le_of_ble_eq_true rfl)) dX12_best1_167 (by decide +kernel)) hS (fun q _ h => hFc q h) hFc (fun u t9_ H locs ht hvm hw9 hB9 hz1 hk1 hS => ?_)
        revert u hw9 hB9
        refine fz_p2 ?_
        intro g167 gs167 hw9 hB9
        try dsimp only at hw9 hB9
        have e9F : fT vF 0 g167 = fT (fT vF 0 g155) 0 g167 := (fT_sm _ _ _ _).symm
        have e9G : fT vG 1 gs167 = fT (fT vG 1 gs155) 1 gs167 := (fT_sm _ _ _ _).symm
        have hP := wr_PG e9G (wr_PF e9F (fz_P ht hB9.1))
        have hD := wr_DG e9G (wr_DF e9F (hB9.2.weaken (fun _ q _ h => hFc q.1 h)))
        clear e9F e9G
        have f167_0 := hw9
        try dsimp only at f167_0
        refine lv_aload_n hx hb dX12_best1_170 rfl (lv_at hl 0 rfl) ?_
        refine lv_sipush (v := 1046) hx hb dX12_best1_171 (by decide) ?_
        refine lv_sipush (v := 1047) hx hb dX12_best1_174 (by decide) ?_
        have hFc := allFree hD hS hA
        refine va_callv (va_runV (As := [.int 1046, .int 1047]) (rest := []) ⟨hx, hb, hml, hown, hts⟩ (r_X12_shorten l dC dI a k h0 vi vj (fT vF 0 g167) (fT vG 1 gs167) 1046 1047 (fT (fT (fT (fT (fT (fT mB 10 ((tv).toInt)) 11 ((vF 64 0).toInt)) 12 (x50 * ((vF 64 0).toInt))) 13 (((tv).toInt) * (mB 1051))) 1046 ((x50 * ((vF 64 0).toInt)) + (-1) * (((tv).toInt) * (mB 1051)))) 1047 ((mB 1051) * ((vF 64 0).toInt))) f167_0 ((x50 * ((vF 64 0).toInt)) + (-1) * (((tv).toInt) * (mB 1051))) ((mB 1051) * ((vF 64 0).toInt)) (by rw [fT_ne _ _ (by omega), fT_eq]) (by rw [fT_eq]) (by first | with_reducible assumption | decide | omega | rfl | assumption) (by first | with_reducible assumption | decide | omega | rfl | assumption) (by first | with_reducible assumption | decide | omega | rfl | assumption) (by first | with_reducible assumption | decide | omega | rfl | assumption) (by first | with_reducible assumption | decide | omega | rfl | assumption) (n47) H.size) (cwV 2 hts gwsRX12_best1_5 rfl rfl rfl hd_yX12_shorten_RX12 (by decide +kernel)) (fz_pre (va_recv hK hP (ci := 12) (q0 := 0) rfl rfl) hP hK hD) rfl rfl hl.1 rfl (lv_room (Nat.le_of_ble_eq_true rfl)) dX12_best1_177 (by decide +kernel)) hS (fun q _ h => hFc q h) hFc (fun u t9_ H locs ht hvm hw9 hB9 hz1 hk1 hS => ?_)
        revert u hw9 hB9
        refine fz_p5 ?_
        intro g177 f2w177 f3w177 gs177 m2177 hw9 hB9
        try dsimp only at hw9 hB9
        have e9F : fT (fT (fT vF 0 g177) 2 f2w177) 3 f3w177 = fT (fT (fT (fT vF 0 g167) 0 g177) 2 f2w177) 3 f3w177 := (congrArg (fun g9 => fT (fT g9 2 f2w177) 3 f3w177) (fT_sm _ _ _ _)).symm
        have e9G : fT vG 1 gs177 = fT (fT vG 1 gs167) 1 gs177 := (fT_sm _ _ _ _).symm
        have hP := wr_PG e9G (wr_PF e9F (fz_P ht hB9.1))
        have hD := wr_DG e9G (wr_DF e9F (hB9.2.weaken (fun _ q _ h => hFc q.1 h)))
        clear e9F e9G
        revert hw9
        refine fz_a5 ?_
        intro f177_0 f177_1 f177_2 f177_3 f177_4
        refine lv_aload_n hx hb dX12_best1_180 rfl (lv_at hl 0 rfl) ?_
        refine lv_sipush (v := 1050) hx hb dX12_best1_181 (by decide) ?_
        refine lv_sipush (v := 1051) hx hb dX12_best1_184 (by decide) ?_
        have hFc := allFree hD hS hA
        refine va_callv (va_runV (As := [.int 1050, .int 1051]) (rest := []) ⟨hx, hb, hml, hown, hts⟩ (r_X12_shorten l dC dI a k h0 vi vj (fT (fT (fT vF 0 g177) 2 f2w177) 3 f3w177) (fT vG 1 gs177) 1050 1051 m2177 f177_0 x50 (mB 1051) (by rw [f177_3 _ (by omega) (by omega) (by omega), fT_ne _ _ (by omega), fT_ne _ _ (by omega), fT_ne _ _ (by omega), fT_ne _ _ (by omega), fT_ne _ _ (by omega), fT_ne _ _ (by omega), v_x50]) (by rw [f177_3 _ (by omega) (by omega) (by omega), fT_ne _ _ (by omega), fT_ne _ _ (by omega), fT_ne _ _ (by omega), fT_ne _ _ (by omega), fT_ne _ _ (by omega), fT_ne _ _ (by omega)]) (by first | with_reducible assumption | decide | omega | rfl | assumption) (by first | with_reducible assumption | decide | omega | rfl | assumption) (by first | with_reducible assumption | decide | omega | rfl | assumption) (by first | with_reducible assumption | decide | omega | rfl | assumption) (by first | with_reducible assumption | decide | omega | rfl | assumption) (by omega) H.size) (cwV 2 hts gwsRX12_best1_5 rfl rfl rfl hd_yX12_shorten_RX12 (by decide +kernel)) (fz_pre (va_recv hK hP (ci := 12) (q0 := 0) rfl rfl) hP hK hD) rfl rfl hl.1 rfl (lv_room (Nat.le_of_ble_eq_true rfl)) dX12_best1_187 (by decide +kernel)) hS (fun q _ h => hFc q h) hFc (fun u t9_ H locs ht hvm hw9 hB9 hz1 hk1 hS => ?_)
        revert u hw9 hB9
        refine fz_p5 ?_
        intro g187 f2w187 f3w187 gs187 m2187 hw9 hB9
        try dsimp only at hw9 hB9
        have e9F : fT (fT (fT vF 0 g187) 2 f2w187) 3 f3w187 = fT (fT (fT (fT (fT (fT vF 0 g177) 2 f2w177) 3 f3w177) 0 g187) 2 f2w187) 3 f3w187 := ((congrArg (fun g9 => fT (fT g9 2 f2w187) 3 f3w187) ((fT_sw _ _ _ (Nat.ne_of_beq_eq_false rfl)).trans (congrArg (fun g9 => fT g9 3 f3w177) ((fT_sw _ _ _ (Nat.ne_of_beq_eq_false rfl)).trans (congrArg (fun g9 => fT g9 2 f2w177) (fT_sm _ _ _ _)))))).trans ((congrArg (fun g9 => fT g9 3 f3w187) ((fT_sw _ _ _ (Nat.ne_of_beq_eq_false rfl)).trans (congrArg (fun g9 => fT g9 3 f3w177) (fT_sm _ _ _ _)))).trans (fT_sm _ _ _ _))).symm
        have e9G : fT vG 1 gs187 = fT (fT vG 1 gs177) 1 gs187 := (fT_sm _ _ _ _).symm
        have hP := wr_PG e9G (wr_PF e9F (fz_P ht hB9.1))
        have hD := wr_DG e9G (wr_DF e9F (hB9.2.weaken (fun _ q _ h => hFc q.1 h)))
        clear e9F e9G
        revert hw9
        refine fz_a5 ?_
        intro f187_0 f187_1 f187_2 f187_3 f187_4
        refine W.widen (k := 0) (n := 0) (by decide +kernel) (by decide +kernel) ?_
        exact W.vret hx hb hr (fun t9_ ht hW => ⟨⟨(g187, f2w187, f3w187, gs187, m2187), rfl, by (try dsimp only); exact ⟨f187_0, ⟨by rw [f187_3 _ (by omega) (by omega) (by omega)]; exact Nat.lt_of_le_of_lt f177_1 s46, by rw [f187_3 _ (by omega) (by omega) (by omega)]; exact Nat.lt_of_le_of_lt f177_2 s47⟩, f187_4, fun q h1 h2 h3 h4 h5 => by (rw [f187_3 _ (by omega) (by omega) (by omega), f177_3 _ (by omega) (by omega) (by omega), fT_ne _ _ (by omega), fT_ne _ _ (by omega), fT_ne _ _ (by omega), fT_ne _ _ (by omega), fT_ne _ _ (by omega), fT_ne _ _ (by omega)]); exact hoB q (by omega)⟩, by rw [ht]; exact hP, hD⟩, hS.F ht⟩) hS.2.2 dX12_best1_190
  · have t_36 : ((gq : Nat) : Int) = 0 := toI_nne c_36 (nI_toInt (by omega)) (by decide)
    refine W.widen (k := 0) (n := 0) (by decide +kernel) (by decide +kernel) ?_
    have e9 : fT (fT (fT vF 0 g29) 2 (vF 2)) 3 (vF 3) = fT vF 0 g29 := (fT_id _ _ ((fT_ne _ _ (Nat.ne_of_beq_eq_false rfl)).trans (fT_ne _ _ (Nat.ne_of_beq_eq_false rfl)))).trans (fT_id _ _ (fT_ne _ _ (Nat.ne_of_beq_eq_false rfl)))
    have hP := wr_PF e9 hP
    have hD := wr_DF e9 hD
    clear e9
    have e9 : fT vG 1 (vG 1) = vG := fT_id _ _ (rfl)
    have hP := wr_PG e9 hP
    have hD := wr_DG e9 hD
    clear e9
    exact W.vret hx hb hr (fun t9_ ht hW => ⟨⟨(g29, (vF 2), (vF 3), (vG 1), (fT (fT (fT (fT mg 1050 0) 1051 1) 1046 0) 1047 1)), rfl, by (try dsimp only); exact ⟨f29_0, by (have e9 : (fT (fT (fT (fT mg 1050 0) 1051 1) 1046 0) 1047 1) 1046 = 0 := (by rw [fT_ne _ _ (by omega), fT_eq])); (have e8 : (fT (fT (fT (fT mg 1050 0) 1051 1) 1046 0) 1047 1) 1047 = 1 := (by rw [fT_eq])); rw [e9, e8]; exact ⟨by show _ < _; decide, by show _ < _; decide⟩, by (have e8 : (fT (fT (fT (fT mg 1050 0) 1051 1) 1046 0) 1047 1) 1051 = 1 := (by rw [fT_ne _ _ (by omega), fT_ne _ _ (by omega), fT_eq])); rw [e8]; decide, fun q h1 h2 h3 h4 h5 => by (rw [fT_ne _ _ (by omega), fT_ne _ _ (by omega), fT_ne _ _ (by omega), fT_ne _ _ (by omega)])⟩, by rw [ht]; exact hP, hD⟩, hS.F ht⟩) hS.2.2 dX12_best1_39
theorem dX12_shortBest_0 : decode cX12_shortBest 0 = .ok (.aload_n 0, 1) := dk_42 (by decide +kernel)
theorem dX12_shortBest_1 : decode cX12_shortBest 1 = .ok (.invokevirtual 912, 3) := dk_182 (by decide +kernel)
theorem dX12_shortBest_4 : decode cX12_shortBest 4 = .ok (.pop, 1) := dk_87 (by decide +kernel)
theorem dX12_shortBest_5 : decode cX12_shortBest 5 = .ok (.aload_n 0, 1) := dk_42 (by decide +kernel)
theorem dX12_shortBest_6 : decode cX12_shortBest 6 = .ok (.sipush 1046, 3) := dk_17 (by decide +kernel)
theorem dX12_shortBest_9 : decode cX12_shortBest 9 = .ok (.aload_n 0, 1) := dk_42 (by decide +kernel)
theorem dX12_shortBest_10 : decode cX12_shortBest 10 = .ok (.aload_n 0, 1) := dk_42 (by decide +kernel)
theorem dX12_shortBest_11 : decode cX12_shortBest 11 = .ok (.getfield 399, 3) := dk_180 (by decide +kernel)
theorem dX12_shortBest_14 : decode cX12_shortBest 14 = .ok (.iconst 1, 1) := dk_4 (by decide +kernel)
theorem dX12_shortBest_15 : decode cX12_shortBest 15 = .ok (.iadd, 1) := dk_96 (by decide +kernel)
theorem dX12_shortBest_16 : decode cX12_shortBest 16 = .ok (.aload_n 0, 1) := dk_42 (by decide +kernel)
theorem dX12_shortBest_17 : decode cX12_shortBest 17 = .ok (.getfield 396, 3) := dk_180 (by decide +kernel)
theorem dX12_shortBest_20 : decode cX12_shortBest 20 = .ok (.invokevirtual 405, 3) := dk_182 (by decide +kernel)
theorem dX12_shortBest_23 : decode cX12_shortBest 23 = .ok (.invokevirtual 365, 3) := dk_182 (by decide +kernel)
theorem dX12_shortBest_26 : decode cX12_shortBest 26 = .ok (.aload_n 0, 1) := dk_42 (by decide +kernel)
theorem dX12_shortBest_27 : decode cX12_shortBest 27 = .ok (.sipush 1047, 3) := dk_17 (by decide +kernel)
theorem dX12_shortBest_30 : decode cX12_shortBest 30 = .ok (.bipush 20, 2) := dk_16 (by decide +kernel)
theorem dX12_shortBest_32 : decode cX12_shortBest 32 = .ok (.sipush 1045, 3) := dk_17 (by decide +kernel)
theorem dX12_shortBest_35 : decode cX12_shortBest 35 = .ok (.invokevirtual 390, 3) := dk_182 (by decide +kernel)
theorem dX12_shortBest_38 : decode cX12_shortBest 38 = .ok (.aload_n 0, 1) := dk_42 (by decide +kernel)
theorem dX12_shortBest_39 : decode cX12_shortBest 39 = .ok (.sipush 1046, 3) := dk_17 (by decide +kernel)
theorem dX12_shortBest_42 : decode cX12_shortBest 42 = .ok (.sipush 1047, 3) := dk_17 (by decide +kernel)
theorem dX12_shortBest_45 : decode cX12_shortBest 45 = .ok (.invokevirtual 930, 3) := dk_182 (by decide +kernel)
theorem dX12_shortBest_48 : decode cX12_shortBest 48 = .ok (.aload_n 0, 1) := dk_42 (by decide +kernel)
theorem dX12_shortBest_49 : decode cX12_shortBest 49 = .ok (.sipush 1050, 3) := dk_17 (by decide +kernel)
theorem dX12_shortBest_52 : decode cX12_shortBest 52 = .ok (.sipush 1046, 3) := dk_17 (by decide +kernel)
theorem dX12_shortBest_55 : decode cX12_shortBest 55 = .ok (.invokevirtual 365, 3) := dk_182 (by decide +kernel)
theorem dX12_shortBest_58 : decode cX12_shortBest 58 = .ok (.aload_n 0, 1) := dk_42 (by decide +kernel)
theorem dX12_shortBest_59 : decode cX12_shortBest 59 = .ok (.sipush 1051, 3) := dk_17 (by decide +kernel)
theorem dX12_shortBest_62 : decode cX12_shortBest 62 = .ok (.sipush 1047, 3) := dk_17 (by decide +kernel)
theorem dX12_shortBest_65 : decode cX12_shortBest 65 = .ok (.invokevirtual 365, 3) := dk_182 (by decide +kernel)
theorem dX12_shortBest_68 : decode cX12_shortBest 68 = .ok (.return_, 1) := dk_177 (by decide +kernel)
def wsRX12_shortBest : List Cond := .code yX12_shortBest cX12_shortBest 1 none :: ([.fieldLink RX12 399 "OptimaWorksModel" "rows" "I", .fieldLink RX12 396 "OptimaWorksModel" "columns" "I"] ++ wsX120 ++ (wsV RX12 912 RX12 yX12_addsUp wsRX12_addsUp) ++ (wsV RX12 405 RX12 yX12_at wsRX12_at) ++ (wsV RX12 365 RX12 yX12_copy wsRX12_copy) ++ (wsV RX12 390 RX12 yX12_times wsRX12_times) ++ (wsV RX12 930 RX12 yX12_shorten wsRX12_shorten))
theorem iwsRX12_shortBest_in12 : ∀ w ∈ wsX120, w ∈ wsRX12_shortBest := fun _ h => List.mem_cons_of_mem _ (List.mem_append_left _ (List.mem_append_left _ (List.mem_append_left _ (List.mem_append_left _ (List.mem_append_left _ (List.mem_append_right _ h))))))
theorem gwsRX12_shortBest_0 : GoodIn wsRX12_shortBest (wsV RX12 912 RX12 yX12_addsUp wsRX12_addsUp) := goodIn_sub (fun _ h => List.mem_cons_of_mem _ (List.mem_append_left _ (List.mem_append_left _ (List.mem_append_left _ (List.mem_append_left _ (List.mem_append_right _ h)))))) (gdV (by decide +kernel) gdwsRX12_addsUp)
theorem gwsRX12_shortBest_1 : GoodIn wsRX12_shortBest (wsV RX12 405 RX12 yX12_at wsRX12_at) := goodIn_sub (fun _ h => List.mem_cons_of_mem _ (List.mem_append_left _ (List.mem_append_left _ (List.mem_append_left _ (List.mem_append_right _ h))))) (gdV (by decide +kernel) gdwsRX12_at)
theorem gwsRX12_shortBest_2 : GoodIn wsRX12_shortBest (wsV RX12 365 RX12 yX12_copy wsRX12_copy) := goodIn_sub (fun _ h => List.mem_cons_of_mem _ (List.mem_append_left _ (List.mem_append_left _ (List.mem_append_right _ h)))) (gdV (by decide +kernel) gdwsRX12_copy)
theorem gwsRX12_shortBest_3 : GoodIn wsRX12_shortBest (wsV RX12 390 RX12 yX12_times wsRX12_times) := goodIn_sub (fun _ h => List.mem_cons_of_mem _ (List.mem_append_left _ (List.mem_append_right _ h))) (gdV (by decide +kernel) gdwsRX12_times)
theorem gwsRX12_shortBest_4 : GoodIn wsRX12_shortBest (wsV RX12 930 RX12 yX12_shorten wsRX12_shorten) := goodIn_sub (fun _ h => List.mem_cons_of_mem _ (List.mem_append_right _ h)) (gdV (by decide +kernel) gdwsRX12_shorten)
theorem gdwsRX12_shortBest : wsRX12_shortBest.all goodWord = true := gdC rfl (gdA (gdA (gdA (gdA (gdA (gdA (by decide +kernel : ([.fieldLink RX12 399 "OptimaWorksModel" "rows" "I", .fieldLink RX12 396 "OptimaWorksModel" "columns" "I"] : List Cond).all goodWord = true) gdwsX120) (gdV (by decide +kernel) gdwsRX12_addsUp)) (gdV (by decide +kernel) gdwsRX12_at)) (gdV (by decide +kernel) gdwsRX12_copy)) (gdV (by decide +kernel) gdwsRX12_times)) (gdV (by decide +kernel) gdwsRX12_shorten))
set_option maxHeartbeats 4000000 in
set_option maxRecDepth 100000 in
/-- shortBest() -/
theorem r_X12_shortBest (l : Launch) (dC : Nat → ClassId) (dI : Nat → Nat → Nat) (a : Nat → Nat) (k : Nat → ClassId) (h0 : Nat) (vi : Nat → Int32) (vj : Nat → Int64) (vF : Nat → Nat → Int32) (vG : Nat → Nat → Int64) (vn : Nat) (mr : Nat) (gq : Nat) (z : Nat) (nd : Nat) (mg : Nat → Int) (hBg : Bg (vF 0) mg) (hvn : vi 90 = nI vn) (hvn8 : vn ≤ 8) (hmr12 : mr ≤ 12) (hmg : vi 93 = nI gq) (hgq : gq ≤ 3) (hM : MdlB vF gq) (hnd : vi 119 = nI nd) (hN : NdO (vF 71) (vF 72) vn mr z nd) (hsh : vi 118 ≠ 0) (sz : Nat) : Met l yX12_shortBest wsRX12_shortBest ({ frames := 7, cells := 0, slots := 0, locals := 182 }) (va_Pc [.ref h0] (fun U => U.heap.size = sz ∧ va_P (dC, dI) vwCl (WR a k h0 vi vj vF vG) U.heap ∧ va_K (dC, dI) vwCl (tX12 k) U ∧ va_D (fun _ => True) (WR a k h0 vi vj vF vG))) (va_Qv (fun (u : (Nat → Int32) × (Nat → Int32) × (Nat → Int32) × (Nat → Int32) × (Nat → Int32) × (Nat → Int32) × (Nat → Int32) × (Nat → Int64) × (Nat → Int64) × (Nat → Int64) × (Int64) × (Nat → Int) × (Int32) × (Int32) × (Int32)) => (Bg (u.1) (u.2.2.2.2.2.2.2.2.2.2.2.1)) ∧ (Sz 294 ((u.2.2.2.2.2.2.2.2.2.2.2.1) 1046) ∧ Sz 258 ((u.2.2.2.2.2.2.2.2.2.2.2.1) 1047)) ∧ (0 < (u.2.2.2.2.2.2.2.2.2.2.2.1) 1051) ∧ (∀ q, 1000 ≤ q → q ≠ 1045 → q ≠ 1046 → q ≠ 1047 → q ≠ 1050 → q ≠ 1051 → (u.2.2.2.2.2.2.2.2.2.2.2.1) q = mg q)) (fun (u : (Nat → Int32) × (Nat → Int32) × (Nat → Int32) × (Nat → Int32) × (Nat → Int32) × (Nat → Int32) × (Nat → Int32) × (Nat → Int64) × (Nat → Int64) × (Nat → Int64) × (Int64) × (Nat → Int) × (Int32) × (Int32) × (Int32)) t => va_P (dC, dI) vwCl (WR a k h0 (fT (fT (fT (fT vi 5 (u.2.2.2.2.2.2.2.2.2.2.2.2.1)) 6 (u.2.2.2.2.2.2.2.2.2.2.2.2.2.1)) 7 (u.2.2.2.2.2.2.2.2.2.2.2.2.2.2)) 11 0) (fT vj 12 (u.2.2.2.2.2.2.2.2.2.2.1)) (fT (fT (fT (fT (fT (fT (fT vF 74 (u.2.2.2.2.2.2.1)) 0 (u.1)) 4 (u.2.2.2.1)) 6 (u.2.2.2.2.2.1)) 2 (u.2.1)) 3 (u.2.2.1)) 5 (u.2.2.2.2.1)) (fT (fT (fT vG 1 (u.2.2.2.2.2.2.2.1)) 7 (u.2.2.2.2.2.2.2.2.1)) 8 (u.2.2.2.2.2.2.2.2.2.1))) t.heap ∧ va_D (va_A (WR a k h0 vi vj vF vG) sz) (WR a k h0 (fT (fT (fT (fT vi 5 (u.2.2.2.2.2.2.2.2.2.2.2.2.1)) 6 (u.2.2.2.2.2.2.2.2.2.2.2.2.2.1)) 7 (u.2.2.2.2.2.2.2.2.2.2.2.2.2.2)) 11 0) (fT vj 12 (u.2.2.2.2.2.2.2.2.2.2.1)) (fT (fT (fT (fT (fT (fT (fT vF 74 (u.2.2.2.2.2.2.1)) 0 (u.1)) 4 (u.2.2.2.1)) 6 (u.2.2.2.2.2.1)) 2 (u.2.1)) 3 (u.2.2.1)) 5 (u.2.2.2.2.1)) (fT (fT (fT vG 1 (u.2.2.2.2.2.2.2.1)) 7 (u.2.2.2.2.2.2.2.2.1)) 8 (u.2.2.2.2.2.2.2.2.2.1)))) (va_A (WR a k h0 vi vj vF vG) sz)) 0 0 (va_A (WR a k h0 vi vj vF vG) sz) := by
  refine Met.ofW (cc := cX12_shortBest) (maxL := 1) (ret := none) (by decide) rfl ?_
  intro p e s m args below meth c s₁ B hml hv
  obtain ⟨rfl, hsz, hP, hK, hD0⟩ := hv
  have hx := B.exec
  have hb := B.bytes
  have hr := B.returns
  have hts := atoms_spec (ws := wsRX12_shortBest) B.pre
  have hown : s.vm.findClass RX12 = some m.cls := findClass_of_methodNamed B.named
  have hlocks := B.notSynchronized
  subst hsz
  have hD := hD0.self (sz := s.heap.size)
  generalize hAe : va_A (WR a k h0 vi vj vF vG) s.heap.size = A at hD ⊢
  have hA : ∀ q : Nat, s.heap.size ≤ q → A q := fun q h => by rw [← hAe]; exact Or.inr h
  have hS : va_S A s.heap s.heap [] := va_S.rf
  have hl := lv_entry ([.ref h0]) (n := 1) (Nat.le_of_ble_eq_true rfl)
  rw [lg_entry_eq]
  generalize (lg_sl ([.ref h0]) ++ List.replicate (1 - (lg_sl ([.ref h0])).length) Slot.unset).toArray = ls at hl ⊢
  have hl : lv_has ls 1 [(0, .ref h0)] := hl
  refine lv_aload_n hx hb dX12_shortBest_0 rfl (lv_at hl 0 rfl) ?_
  have hFc := allFree hD hS hA
  refine va_calli (va_runV (As := []) (rest := []) ⟨hx, hb, hml, hown, hts⟩ (r_X12_addsUp l dC dI a k h0 vi vj vF vG vn mr gq z nd mg hBg (by first | with_reducible assumption | decide | omega | rfl | assumption) (by first | with_reducible assumption | decide | omega | rfl | assumption) (by first | with_reducible assumption | decide | omega | rfl | assumption) (by first | with_reducible assumption | decide | omega | rfl | assumption) (by first | with_reducible assumption | decide | omega | rfl | assumption) (by first | with_reducible assumption | decide | omega | rfl | assumption) (by first | with_reducible assumption | decide | omega | rfl | assumption) (by first | with_reducible assumption | decide | omega | rfl | assumption) s.heap.size) (cwV 0 hts gwsRX12_shortBest_0 rfl rfl rfl hd_yX12_addsUp_RX12 (by decide +kernel)) (fz_pre (va_recv hK hP (ci := 12) (q0 := 0) rfl rfl) hP hK hD) rfl rfl hl.1 rfl (lv_room (Nat.le_of_ble_eq_true rfl)) dX12_shortBest_1 (by decide +kernel)) hS (fun q _ h => hFc q h) hFc (fun r1 u t9_ H locs ht hvm hw9 hB9 hz1 hk1 hS => ?_)
  revert u hw9 hB9
  refine fz_p16 ?_
  intro g1 f2w1 f3w1 f41 f51 f61 f741 gs1 F1 L81 qd1 C1 R1 t21 D21 m21 hw9 hB9
  try dsimp only at hw9 hB9
  have hP : va_P (dC, dI) vwCl (WR a k h0 (fT (fT (fT (fT vi 5 (nI C1)) 6 (nI R1)) 7 (nI 2)) 11 0) (fT vj 12 qd1) (fT (fT (fT (fT (fT (fT (fT vF 74 f741) 0 g1) 4 f41) 6 f61) 2 f2w1) 3 f3w1) 5 f51) (fT (fT (fT vG 1 gs1) 7 F1) 8 L81)) H := fz_P ht hB9.1
  have hD := fz_sd hP (hB9.2.weaken (fun _ q _ h => hFc q.1 h)) rfl
  revert hw9
  refine fz_a9 ?_
  intro f1_0 f1_1 f1_2 f1_3 f1_4 f1_5 f1_6 f1_7 f1_8
  have f1_6 : 0 < m21 1045 ∧ Sz 67 (m21 1045) ∧ ((vi 118) ≠ 0 → m21 1045 = 1) := f1_6
  refine lv_pop hx hb dX12_shortBest_4 rfl ?_
  have hpl := pl_lt (C := C1) (show R1 + 1 < R1 + 2 by omega) (Nat.le_refl C1)
  have hp2 : (R1 + 2) * (C1 + 1) ≤ 20 * 42 := Nat.mul_le_mul (by omega) (by omega)
  have hgo := f1_1.1 (R1 + 1) (by omega) C1 (Nat.le_refl _)
  have h20 := f1_1.2
  have e45 : m21 1045 = 1 := f1_6.2.2 hsh
  have s47 : Sz 258 (m21 20 * m21 1045) := by rw [e45, Int.mul_one, h20]; exact f1_2.2
  have n47 : m21 20 * m21 1045 ≠ 0 := by rw [e45, Int.mul_one, h20]; (have h9 := f1_2.1); omega
  refine lv_aload_n hx hb dX12_shortBest_5 rfl (lv_at hl 0 rfl) ?_
  refine lv_sipush (v := 1046) hx hb dX12_shortBest_6 (by decide) ?_
  refine lv_aload_n hx hb dX12_shortBest_9 rfl (lv_at hl 0 rfl) ?_
  refine lv_aload_n hx hb dX12_shortBest_10 rfl (lv_at hl 0 rfl) ?_
  refine va_get (D := (dC, dI)) (ci := 12) (v := .int (nI R1)) (C := RX12) (T := TX12) (N := 163) (fs := fM (vS a (fT (fT (fT (fT vi 5 (nI C1)) 6 (nI R1)) 7 (nI 2)) 11 0) (fT vj 12 qd1))) hx hb hts iwsRX12_shortBest_in12 hown hK hP 0 rfl rfl 6 (by decide) (hts (.fieldLink RX12 399 "OptimaWorksModel" "rows" "I") (by decide +kernel)) (fun _ h9 => h9) rfl dX12_shortBest_11 ?_
  refine lv_iconst (v := 1) hx hb dX12_shortBest_14 (by decide) ?_
  refine lv_iadd hx hb dX12_shortBest_15 ?_
  refine lv_topi (fun y1 hy1 => ?_)
  obtain rfl : (nI (R1 + 1)) = y1 := (hy1.trans (nI_add R1 1)).symm
  refine lv_aload_n hx hb dX12_shortBest_16 rfl (lv_at hl 0 rfl) ?_
  refine va_get (D := (dC, dI)) (ci := 12) (v := .int (nI C1)) (C := RX12) (T := TX12) (N := 163) (fs := fM (vS a (fT (fT (fT (fT vi 5 (nI C1)) 6 (nI R1)) 7 (nI 2)) 11 0) (fT vj 12 qd1))) hx hb hts iwsRX12_shortBest_in12 hown hK hP 0 rfl rfl 5 (by decide) (hts (.fieldLink RX12 396 "OptimaWorksModel" "columns" "I") (by decide +kernel)) (fun _ h9 => h9) rfl dX12_shortBest_17 ?_
  have hFc := allFree hD hS hA
  refine va_calli (va_runV (As := [.int (nI (R1 + 1)), .int (nI C1)]) (rest := [.int 1046, .ref h0]) ⟨hx, hb, hml, hown, hts⟩ (r_X12_at l dC dI a k h0 (fT (fT (fT (fT vi 5 (nI C1)) 6 (nI R1)) 7 (nI 2)) 11 0) (fT vj 12 qd1) (fT (fT (fT (fT (fT (fT (fT vF 74 f741) 0 g1) 4 f41) 6 f61) 2 f2w1) 3 f3w1) 5 f51) (fT (fT (fT vG 1 gs1) 7 F1) 8 L81) (R1 + 1) C1 C1 (by first | with_reducible assumption | decide | omega | rfl | assumption) H.size) (cwV 2 hts gwsRX12_shortBest_1 rfl rfl rfl hd_yX12_at_RX12 (by decide +kernel)) (fz_pre (va_recv hK hP (ci := 12) (q0 := 0) rfl rfl) hP hK hD) rfl rfl hl.1 rfl (lv_room (Nat.le_of_ble_eq_true rfl)) dX12_shortBest_20 (by decide +kernel)) hS (fun q _ h => hFc q h) hFc (fun r20 u t9_ H locs ht hvm hw9 hB9 hz1 hk1 hS => ?_)
  have hP : va_P (dC, dI) vwCl (WR a k h0 (fT (fT (fT (fT vi 5 (nI C1)) 6 (nI R1)) 7 (nI 2)) 11 0) (fT vj 12 qd1) (fT (fT (fT (fT (fT (fT (fT vF 74 f741) 0 g1) 4 f41) 6 f61) 2 f2w1) 3 f3w1) 5 f51) (fT (fT (fT vG 1 gs1) 7 F1) 8 L81)) H := fz_P ht hB9.1
  have hD := fz_sd hP (hB9.2.weaken (fun _ q _ h => hFc q.1 h)) rfl
  obtain rfl := hw9
  have hFc := allFree hD hS hA
  refine va_callv (va_runV (As := [.int 1046, .int (nI (30 + (R1 + 1) * (C1 + 1) + C1))]) (rest := []) ⟨hx, hb, hml, hown, hts⟩ (b_X12_copy l dC dI a k h0 (fT (fT (fT (fT vi 5 (nI C1)) 6 (nI R1)) 7 (nI 2)) 11 0) (fT vj 12 qd1) (fT (fT (fT (fT (fT (fT (fT vF 74 f741) 0 g1) 4 f41) 6 f61) 2 f2w1) 3 f3w1) 5 f51) (fT (fT (fT vG 1 gs1) 7 F1) 8 L81) 1046 (30 + (R1 + 1) * (C1 + 1) + C1) m21 f1_0 (m21 (30 + (R1 + 1) * (C1 + 1) + C1)) rfl (by first | with_reducible assumption | decide | omega | rfl | assumption) (by first | with_reducible assumption | decide | omega | rfl | assumption) (by first | with_reducible assumption | decide | omega | rfl | assumption) H.size) (cwV 2 hts gwsRX12_shortBest_2 rfl rfl rfl hd_yX12_copy_RX12 (by decide +kernel)) (fz_pre (va_recv hK hP (ci := 12) (q0 := 0) rfl rfl) hP hK hD) rfl rfl hl.1 rfl (lv_room (Nat.le_of_ble_eq_true rfl)) dX12_shortBest_23 (by decide +kernel)) hS (fun q _ h => hFc q h) hFc (fun g23 t9_ H locs ht hvm hw9 hB9 hz1 hk1 hS => ?_)
  have e9F : fT (fT (fT (fT (fT (fT (fT vF 74 f741) 0 g23) 4 f41) 6 f61) 2 f2w1) 3 f3w1) 5 f51 = fT (fT (fT (fT (fT (fT (fT (fT vF 74 f741) 0 g1) 4 f41) 6 f61) 2 f2w1) 3 f3w1) 5 f51) 0 g23 := ((fT_sw _ _ _ (Nat.ne_of_beq_eq_false rfl)).trans (congrArg (fun g9 => fT g9 5 f51) ((fT_sw _ _ _ (Nat.ne_of_beq_eq_false rfl)).trans (congrArg (fun g9 => fT g9 3 f3w1) ((fT_sw _ _ _ (Nat.ne_of_beq_eq_false rfl)).trans (congrArg (fun g9 => fT g9 2 f2w1) ((fT_sw _ _ _ (Nat.ne_of_beq_eq_false rfl)).trans (congrArg (fun g9 => fT g9 6 f61) ((fT_sw _ _ _ (Nat.ne_of_beq_eq_false rfl)).trans (congrArg (fun g9 => fT g9 4 f41) (fT_sm _ _ _ _))))))))))).symm
  have hP := wr_PF e9F (fz_P ht hB9.1)
  have hD := wr_DF e9F (hB9.2.weaken (fun _ q _ h => hFc q.1 h))
  clear e9F
  have f23_0 := hw9
  try dsimp only at f23_0
  refine lv_aload_n hx hb dX12_shortBest_26 rfl (lv_at hl 0 rfl) ?_
  refine lv_sipush (v := 1047) hx hb dX12_shortBest_27 (by decide) ?_
  refine lv_bipush (v := 20) hx hb dX12_shortBest_30 (by decide) ?_
  refine lv_sipush (v := 1045) hx hb dX12_shortBest_32 (by decide) ?_
  have hFc := allFree hD hS hA
  refine va_callv (va_runV (As := [.int 1047, .int 20, .int 1045]) (rest := []) ⟨hx, hb, hml, hown, hts⟩ (b_X12_times l dC dI a k h0 (fT (fT (fT (fT vi 5 (nI C1)) 6 (nI R1)) 7 (nI 2)) 11 0) (fT vj 12 qd1) (fT (fT (fT (fT (fT (fT (fT vF 74 f741) 0 g23) 4 f41) 6 f61) 2 f2w1) 3 f3w1) 5 f51) (fT (fT (fT vG 1 gs1) 7 F1) 8 L81) 1047 20 1045 (fT m21 1046 (m21 (30 + (R1 + 1) * (C1 + 1) + C1))) f23_0 (m21 20) (m21 1045) (by rw [fT_ne _ _ (by omega)]) (by rw [fT_ne _ _ (by omega)]) (by first | with_reducible assumption | decide | omega | rfl | assumption) (by first | with_reducible assumption | decide | omega | rfl | assumption) (by first | with_reducible assumption | decide | omega | rfl | assumption) (by rw [e45, h20]; exact mulpN (c := 588) f1_2.2 (show (1 : Int).natAbs < 2 ^ 1 by decide) (by decide)) H.size) (cwV 3 hts gwsRX12_shortBest_3 rfl rfl rfl hd_yX12_times_RX12 (by decide +kernel)) (fz_pre (va_recv hK hP (ci := 12) (q0 := 0) rfl rfl) hP hK hD) rfl rfl hl.1 rfl (lv_room (Nat.le_of_ble_eq_true rfl)) dX12_shortBest_35 (by decide +kernel)) hS (fun q _ h => hFc q h) hFc (fun u t9_ H locs ht hvm hw9 hB9 hz1 hk1 hS => ?_)
  revert u hw9 hB9
  refine fz_p2 ?_
  intro g35 gs35 hw9 hB9
  try dsimp only at hw9 hB9
  have e9F : fT (fT (fT (fT (fT (fT (fT vF 74 f741) 0 g35) 4 f41) 6 f61) 2 f2w1) 3 f3w1) 5 f51 = fT (fT (fT (fT (fT (fT (fT (fT vF 74 f741) 0 g23) 4 f41) 6 f61) 2 f2w1) 3 f3w1) 5 f51) 0 g35 := ((fT_sw _ _ _ (Nat.ne_of_beq_eq_false rfl)).trans (congrArg (fun g9 => fT g9 5 f51) ((fT_sw _ _ _ (Nat.ne_of_beq_eq_false rfl)).trans (congrArg (fun g9 => fT g9 3 f3w1) ((fT_sw _ _ _ (Nat.ne_of_beq_eq_false rfl)).trans (congrArg (fun g9 => fT g9 2 f2w1) ((fT_sw _ _ _ (Nat.ne_of_beq_eq_false rfl)).trans (congrArg (fun g9 => fT g9 6 f61) ((fT_sw _ _ _ (Nat.ne_of_beq_eq_false rfl)).trans (congrArg (fun g9 => fT g9 4 f41) (fT_sm _ _ _ _))))))))))).symm
  have e9G : fT (fT (fT vG 1 gs35) 7 F1) 8 L81 = fT (fT (fT (fT vG 1 gs1) 7 F1) 8 L81) 1 gs35 := ((fT_sw _ _ _ (Nat.ne_of_beq_eq_false rfl)).trans (congrArg (fun g9 => fT g9 8 L81) ((fT_sw _ _ _ (Nat.ne_of_beq_eq_false rfl)).trans (congrArg (fun g9 => fT g9 7 F1) (fT_sm _ _ _ _))))).symm
  have hP := wr_PG e9G (wr_PF e9F (fz_P ht hB9.1))
  have hD := wr_DG e9G (wr_DF e9F (hB9.2.weaken (fun _ q _ h => hFc q.1 h)))
  clear e9F e9G
  have f35_0 := hw9
  try dsimp only at f35_0
  refine lv_aload_n hx hb dX12_shortBest_38 rfl (lv_at hl 0 rfl) ?_
  refine lv_sipush (v := 1046) hx hb dX12_shortBest_39 (by decide) ?_
  refine lv_sipush (v := 1047) hx hb dX12_shortBest_42 (by decide) ?_
  have hFc := allFree hD hS hA
  refine va_callv (va_runV (As := [.int 1046, .int 1047]) (rest := []) ⟨hx, hb, hml, hown, hts⟩ (r_X12_shorten l dC dI a k h0 (fT (fT (fT (fT vi 5 (nI C1)) 6 (nI R1)) 7 (nI 2)) 11 0) (fT vj 12 qd1) (fT (fT (fT (fT (fT (fT (fT vF 74 f741) 0 g35) 4 f41) 6 f61) 2 f2w1) 3 f3w1) 5 f51) (fT (fT (fT vG 1 gs35) 7 F1) 8 L81) 1046 1047 (fT (fT m21 1046 (m21 (30 + (R1 + 1) * (C1 + 1) + C1))) 1047 ((m21 20) * (m21 1045))) f35_0 (m21 (30 + (R1 + 1) * (C1 + 1) + C1)) ((m21 20) * (m21 1045)) (by rw [fT_ne _ _ (by omega), fT_eq]) (by rw [fT_eq]) (by first | with_reducible assumption | decide | omega | rfl | assumption) (by first | with_reducible assumption | decide | omega | rfl | assumption) (by first | with_reducible assumption | decide | omega | rfl | assumption) (by first | with_reducible assumption | decide | omega | rfl | assumption) (by first | with_reducible assumption | decide | omega | rfl | assumption) (n47) H.size) (cwV 2 hts gwsRX12_shortBest_4 rfl rfl rfl hd_yX12_shorten_RX12 (by decide +kernel)) (fz_pre (va_recv hK hP (ci := 12) (q0 := 0) rfl rfl) hP hK hD) rfl rfl hl.1 rfl (lv_room (Nat.le_of_ble_eq_true rfl)) dX12_shortBest_45 (by decide +kernel)) hS (fun q _ h => hFc q h) hFc (fun u t9_ H locs ht hvm hw9 hB9 hz1 hk1 hS => ?_)
  revert u hw9 hB9
  refine fz_p5 ?_
  intro g45 f2w45 f3w45 gs45 m245 hw9 hB9
  try dsimp only at hw9 hB9
  have e9F : fT (fT (fT (fT (fT (fT (fT vF 74 f741) 0 g45) 4 f41) 6 f61) 2 f2w45) 3 f3w45) 5 f51 = fT (fT (fT (fT (fT (fT (fT (fT (fT (fT vF 74 f741) 0 g35) 4 f41) 6 f61) 2 f2w1) 3 f3w1) 5 f51) 0 g45) 2 f2w45) 3 f3w45 := Eq.symm (Eq.trans (congrArg (fun g9 => fT g9 3 f3w45) (Eq.trans (congrArg (fun g9 => fT g9 2 f2w45) (up_5 rfl)) (up_2 rfl))) (up_1 rfl))
  have e9G : fT (fT (fT vG 1 gs45) 7 F1) 8 L81 = fT (fT (fT (fT vG 1 gs35) 7 F1) 8 L81) 1 gs45 := ((fT_sw _ _ _ (Nat.ne_of_beq_eq_false rfl)).trans (congrArg (fun g9 => fT g9 8 L81) ((fT_sw _ _ _ (Nat.ne_of_beq_eq_false rfl)).trans (congrArg (fun g9 => fT g9 7 F1) (fT_sm _ _ _ _))))).symm
  have hP := wr_PG e9G (wr_PF e9F (fz_P ht hB9.1))
  have hD := wr_DG e9G (wr_DF e9F (hB9.2.weaken (fun _ q _ h => hFc q.1 h)))
  clear e9F e9G
  revert hw9
  refine fz_a5 ?_
  intro f45_0 f45_1 f45_2 f45_3 f45_4
  refine lv_aload_n hx hb dX12_shortBest_48 rfl (lv_at hl 0 rfl) ?_
  refine lv_sipush (v := 1050) hx hb dX12_shortBest_49 (by decide) ?_
  refine lv_sipush (v := 1046) hx hb dX12_shortBest_52 (by decide) ?_
  have hFc := allFree hD hS hA
  refine va_callv (va_runV (As := [.int 1050, .int 1046]) (rest := []) ⟨hx, hb, hml, hown, hts⟩ (b_X12_copy l dC dI a k h0 (fT (fT (fT (fT vi 5 (nI C1)) 6 (nI R1)) 7 (nI 2)) 11 0) (fT vj 12 qd1) (fT (fT (fT (fT (fT (fT (fT vF 74 f741) 0 g45) 4 f41) 6 f61) 2 f2w45) 3 f3w45) 5 f51) (fT (fT (fT vG 1 gs45) 7 F1) 8 L81) 1050 1046 m245 f45_0 (m245 1046) rfl (by first | with_reducible assumption | decide | omega | rfl | assumption) (by first | with_reducible assumption | decide | omega | rfl | assumption) (by first | with_reducible assumption | decide | omega | rfl | assumption) H.size) (cwV 2 hts gwsRX12_shortBest_2 rfl rfl rfl hd_yX12_copy_RX12 (by decide +kernel)) (fz_pre (va_recv hK hP (ci := 12) (q0 := 0) rfl rfl) hP hK hD) rfl rfl hl.1 rfl (lv_room (Nat.le_of_ble_eq_true rfl)) dX12_shortBest_55 (by decide +kernel)) hS (fun q _ h => hFc q h) hFc (fun g55 t9_ H locs ht hvm hw9 hB9 hz1 hk1 hS => ?_)
  have e9F : fT (fT (fT (fT (fT (fT (fT vF 74 f741) 0 g55) 4 f41) 6 f61) 2 f2w45) 3 f3w45) 5 f51 = fT (fT (fT (fT (fT (fT (fT (fT vF 74 f741) 0 g45) 4 f41) 6 f61) 2 f2w45) 3 f3w45) 5 f51) 0 g55 := ((fT_sw _ _ _ (Nat.ne_of_beq_eq_false rfl)).trans (congrArg (fun g9 => fT g9 5 f51) ((fT_sw _ _ _ (Nat.ne_of_beq_eq_false rfl)).trans (congrArg (fun g9 => fT g9 3 f3w45) ((fT_sw _ _ _ (Nat.ne_of_beq_eq_false rfl)).trans (congrArg (fun g9 => fT g9 2 f2w45) ((fT_sw _ _ _ (Nat.ne_of_beq_eq_false rfl)).trans (congrArg (fun g9 => fT g9 6 f61) ((fT_sw _ _ _ (Nat.ne_of_beq_eq_false rfl)).trans (congrArg (fun g9 => fT g9 4 f41) (fT_sm _ _ _ _))))))))))).symm
  have hP := wr_PF e9F (fz_P ht hB9.1)
  have hD := wr_DF e9F (hB9.2.weaken (fun _ q _ h => hFc q.1 h))
  clear e9F
  have f55_0 := hw9
  try dsimp only at f55_0
  refine lv_aload_n hx hb dX12_shortBest_58 rfl (lv_at hl 0 rfl) ?_
  refine lv_sipush (v := 1051) hx hb dX12_shortBest_59 (by decide) ?_
  refine lv_sipush (v := 1047) hx hb dX12_shortBest_62 (by decide) ?_
  have hFc := allFree hD hS hA
  refine va_callv (va_runV (As := [.int 1051, .int 1047]) (rest := []) ⟨hx, hb, hml, hown, hts⟩ (b_X12_copy l dC dI a k h0 (fT (fT (fT (fT vi 5 (nI C1)) 6 (nI R1)) 7 (nI 2)) 11 0) (fT vj 12 qd1) (fT (fT (fT (fT (fT (fT (fT vF 74 f741) 0 g55) 4 f41) 6 f61) 2 f2w45) 3 f3w45) 5 f51) (fT (fT (fT vG 1 gs45) 7 F1) 8 L81) 1051 1047 (fT m245 1050 (m245 1046)) f55_0 (m245 1047) (by rw [fT_ne _ _ (by omega)]) (by first | with_reducible assumption | decide | omega | rfl | assumption) (by first | with_reducible assumption | decide | omega | rfl | assumption) (by first | with_reducible assumption | decide | omega | rfl | assumption) H.size) (cwV 2 hts gwsRX12_shortBest_2 rfl rfl rfl hd_yX12_copy_RX12 (by decide +kernel)) (fz_pre (va_recv hK hP (ci := 12) (q0 := 0) rfl rfl) hP hK hD) rfl rfl hl.1 rfl (lv_room (Nat.le_of_ble_eq_true rfl)) dX12_shortBest_65 (by decide +kernel)) hS (fun q _ h => hFc q h) hFc (fun g65 t9_ H locs ht hvm hw9 hB9 hz1 hk1 hS => ?_)
  have e9F : fT (fT (fT (fT (fT (fT (fT vF 74 f741) 0 g65) 4 f41) 6 f61) 2 f2w45) 3 f3w45) 5 f51 = fT (fT (fT (fT (fT (fT (fT (fT vF 74 f741) 0 g55) 4 f41) 6 f61) 2 f2w45) 3 f3w45) 5 f51) 0 g65 := ((fT_sw _ _ _ (Nat.ne_of_beq_eq_false rfl)).trans (congrArg (fun g9 => fT g9 5 f51) ((fT_sw _ _ _ (Nat.ne_of_beq_eq_false rfl)).trans (congrArg (fun g9 => fT g9 3 f3w45) ((fT_sw _ _ _ (Nat.ne_of_beq_eq_false rfl)).trans (congrArg (fun g9 => fT g9 2 f2w45) ((fT_sw _ _ _ (Nat.ne_of_beq_eq_false rfl)).trans (congrArg (fun g9 => fT g9 6 f61) ((fT_sw _ _ _ (Nat.ne_of_beq_eq_false rfl)).trans (congrArg (fun g9 => fT g9 4 f41) (fT_sm _ _ _ _))))))))))).symm
  have hP := wr_PF e9F (fz_P ht hB9.1)
  have hD := wr_DF e9F (hB9.2.weaken (fun _ q _ h => hFc q.1 h))
  clear e9F
  have f65_0 := hw9
  try dsimp only at f65_0
  refine W.widen (k := 0) (n := 0) (by decide +kernel) (by decide +kernel) ?_
  exact W.vret hx hb hr (fun t9_ ht hW => ⟨⟨(g65, f2w45, f3w45, f41, f51, f61, f741, gs45, F1, L81, qd1, (fT (fT m245 1050 (m245 1046)) 1051 (m245 1047)), (nI C1), (nI R1), (nI 2)), rfl, by (try dsimp only); exact ⟨f65_0, ⟨by rw [fT_ne _ _ (by omega), fT_ne _ _ (by omega)]; exact Nat.lt_of_le_of_lt f45_1 (by rw [hgo]; exact f1_4 (R1 + 1) (by omega)), by rw [fT_ne _ _ (by omega), fT_ne _ _ (by omega)]; exact Nat.lt_of_le_of_lt f45_2 s47⟩, by rw [fT_eq]; exact f45_4, fun q h1 h2 h3 h4 h5 h6 => by (rw [fT_ne _ _ (by omega), fT_ne _ _ (by omega), f45_3 _ (by omega) (by omega) (by omega), fT_ne _ _ (by omega), fT_ne _ _ (by omega), f1_7 _ (by omega) (by omega)])⟩, by rw [ht]; exact hP, hD⟩, hS.F ht⟩) hS.2.2 dX12_shortBest_68
theorem dX12_multipliers_0 : decode cX12_multipliers 0 = .ok (.iconst 0, 1) := dk_3 (by decide +kernel)
theorem dX12_multipliers_1 : decode cX12_multipliers 1 = .ok (.istore_n 1, 1) := dk_60 (by decide +kernel)
theorem dX12_multipliers_2 : decode cX12_multipliers 2 = .ok (.iload_n 1, 1) := dk_27 (by decide +kernel)
theorem dX12_multipliers_3 : decode cX12_multipliers 3 = .ok (.aload_n 0, 1) := dk_42 (by decide +kernel)
theorem dX12_multipliers_4 : decode cX12_multipliers 4 = .ok (.getfield 894, 3) := dk_180 (by decide +kernel)
theorem dX12_multipliers_7 : decode cX12_multipliers 7 = .ok (.if_icmp .ge 95, 3) := dk_162 (by decide +kernel)
theorem dX12_multipliers_10 : decode cX12_multipliers 10 = .ok (.aload_n 0, 1) := dk_42 (by decide +kernel)
theorem dX12_multipliers_11 : decode cX12_multipliers 11 = .ok (.sipush 1060, 3) := dk_17 (by decide +kernel)
theorem dX12_multipliers_14 : decode cX12_multipliers 14 = .ok (.iload_n 1, 1) := dk_27 (by decide +kernel)
theorem dX12_multipliers_15 : decode cX12_multipliers 15 = .ok (.iadd, 1) := dk_96 (by decide +kernel)
theorem dX12_multipliers_16 : decode cX12_multipliers 16 = .ok (.lconst 0, 1) := dk_9 (by decide +kernel)
theorem dX12_multipliers_17 : decode cX12_multipliers 17 = .ok (.invokevirtual 369, 3) := dk_182 (by decide +kernel)
theorem dX12_multipliers_20 : decode cX12_multipliers 20 = .ok (.aload_n 0, 1) := dk_42 (by decide +kernel)
theorem dX12_multipliers_21 : decode cX12_multipliers 21 = .ok (.getfield 242, 3) := dk_180 (by decide +kernel)
theorem dX12_multipliers_24 : decode cX12_multipliers 24 = .ok (.iload_n 1, 1) := dk_27 (by decide +kernel)
theorem dX12_multipliers_25 : decode cX12_multipliers 25 = .ok (.iaload, 1) := dk_46 (by decide +kernel)
theorem dX12_multipliers_26 : decode cX12_multipliers 26 = .ok (.ifCond .ne 6, 3) := dk_154 (by decide +kernel)
theorem dX12_multipliers_29 : decode cX12_multipliers 29 = .ok (.goto 67, 3) := dk_167 (by decide +kernel)
theorem dX12_multipliers_32 : decode cX12_multipliers 32 = .ok (.aload_n 0, 1) := dk_42 (by decide +kernel)
theorem dX12_multipliers_33 : decode cX12_multipliers 33 = .ok (.bipush 22, 2) := dk_16 (by decide +kernel)
theorem dX12_multipliers_35 : decode cX12_multipliers 35 = .ok (.aload_n 0, 1) := dk_42 (by decide +kernel)
theorem dX12_multipliers_36 : decode cX12_multipliers 36 = .ok (.getfield 245, 3) := dk_180 (by decide +kernel)
theorem dX12_multipliers_39 : decode cX12_multipliers 39 = .ok (.iload_n 1, 1) := dk_27 (by decide +kernel)
theorem dX12_multipliers_40 : decode cX12_multipliers 40 = .ok (.iaload, 1) := dk_46 (by decide +kernel)
theorem dX12_multipliers_41 : decode cX12_multipliers 41 = .ok (.invokevirtual 856, 3) := dk_182 (by decide +kernel)
theorem dX12_multipliers_44 : decode cX12_multipliers 44 = .ok (.aload_n 0, 1) := dk_42 (by decide +kernel)
theorem dX12_multipliers_45 : decode cX12_multipliers 45 = .ok (.iload_n 1, 1) := dk_27 (by decide +kernel)
theorem dX12_multipliers_46 : decode cX12_multipliers 46 = .ok (.invokevirtual 900, 3) := dk_182 (by decide +kernel)
theorem dX12_multipliers_49 : decode cX12_multipliers 49 = .ok (.ifCond .eq 36, 3) := dk_153 (by decide +kernel)
theorem dX12_multipliers_52 : decode cX12_multipliers 52 = .ok (.aload_n 0, 1) := dk_42 (by decide +kernel)
theorem dX12_multipliers_53 : decode cX12_multipliers 53 = .ok (.bipush 23, 2) := dk_16 (by decide +kernel)
theorem dX12_multipliers_55 : decode cX12_multipliers 55 = .ok (.aload_n 0, 1) := dk_42 (by decide +kernel)
theorem dX12_multipliers_56 : decode cX12_multipliers 56 = .ok (.getfield 245, 3) := dk_180 (by decide +kernel)
theorem dX12_multipliers_59 : decode cX12_multipliers 59 = .ok (.iload_n 1, 1) := dk_27 (by decide +kernel)
theorem dX12_multipliers_60 : decode cX12_multipliers 60 = .ok (.iaload, 1) := dk_46 (by decide +kernel)
theorem dX12_multipliers_61 : decode cX12_multipliers 61 = .ok (.iconst 1, 1) := dk_4 (by decide +kernel)
theorem dX12_multipliers_62 : decode cX12_multipliers 62 = .ok (.iadd, 1) := dk_96 (by decide +kernel)
theorem dX12_multipliers_63 : decode cX12_multipliers 63 = .ok (.invokevirtual 856, 3) := dk_182 (by decide +kernel)
theorem dX12_multipliers_66 : decode cX12_multipliers 66 = .ok (.aload_n 0, 1) := dk_42 (by decide +kernel)
theorem dX12_multipliers_67 : decode cX12_multipliers 67 = .ok (.bipush 24, 2) := dk_16 (by decide +kernel)
theorem dX12_multipliers_69 : decode cX12_multipliers 69 = .ok (.bipush 22, 2) := dk_16 (by decide +kernel)
theorem dX12_multipliers_71 : decode cX12_multipliers 71 = .ok (.bipush 23, 2) := dk_16 (by decide +kernel)
theorem dX12_multipliers_73 : decode cX12_multipliers 73 = .ok (.iconst (-1), 1) := dk_2 (by decide +kernel)
theorem dX12_multipliers_74 : decode cX12_multipliers 74 = .ok (.invokevirtual 443, 3) := dk_182 (by decide +kernel)
theorem dX12_multipliers_77 : decode cX12_multipliers 77 = .ok (.aload_n 0, 1) := dk_42 (by decide +kernel)
theorem dX12_multipliers_78 : decode cX12_multipliers 78 = .ok (.bipush 22, 2) := dk_16 (by decide +kernel)
theorem dX12_multipliers_80 : decode cX12_multipliers 80 = .ok (.bipush 24, 2) := dk_16 (by decide +kernel)
theorem dX12_multipliers_82 : decode cX12_multipliers 82 = .ok (.invokevirtual 365, 3) := dk_182 (by decide +kernel)
theorem dX12_multipliers_85 : decode cX12_multipliers 85 = .ok (.aload_n 0, 1) := dk_42 (by decide +kernel)
theorem dX12_multipliers_86 : decode cX12_multipliers 86 = .ok (.sipush 1060, 3) := dk_17 (by decide +kernel)
theorem dX12_multipliers_89 : decode cX12_multipliers 89 = .ok (.iload_n 1, 1) := dk_27 (by decide +kernel)
theorem dX12_multipliers_90 : decode cX12_multipliers 90 = .ok (.iadd, 1) := dk_96 (by decide +kernel)
theorem dX12_multipliers_91 : decode cX12_multipliers 91 = .ok (.bipush 22, 2) := dk_16 (by decide +kernel)
theorem dX12_multipliers_93 : decode cX12_multipliers 93 = .ok (.invokevirtual 365, 3) := dk_182 (by decide +kernel)
theorem dX12_multipliers_96 : decode cX12_multipliers 96 = .ok (.iinc 1 1, 3) := dk_132 (by decide +kernel)
theorem dX12_multipliers_99 : decode cX12_multipliers 99 = .ok (.goto (-97), 3) := dk_167 (by decide +kernel)
theorem dX12_multipliers_102 : decode cX12_multipliers 102 = .ok (.aload_n 0, 1) := dk_42 (by decide +kernel)
theorem dX12_multipliers_103 : decode cX12_multipliers 103 = .ok (.sipush 1052, 3) := dk_17 (by decide +kernel)
theorem dX12_multipliers_106 : decode cX12_multipliers 106 = .ok (.bipush 20, 2) := dk_16 (by decide +kernel)
theorem dX12_multipliers_108 : decode cX12_multipliers 108 = .ok (.sipush 1045, 3) := dk_17 (by decide +kernel)
theorem dX12_multipliers_111 : decode cX12_multipliers 111 = .ok (.invokevirtual 390, 3) := dk_182 (by decide +kernel)
theorem dX12_multipliers_114 : decode cX12_multipliers 114 = .ok (.return_, 1) := dk_177 (by decide +kernel)
def wsRX12_multipliers : List Cond := .code yX12_multipliers cX12_multipliers 2 none :: ([.fieldLink RX12 894 "OptimaWorksModel" "needs" "I", .fieldLink RX12 242 "OptimaWorksModel" "needKept" "[I", .fieldLink RX12 245 "OptimaWorksModel" "needColumn" "[I"] ++ wsX120 ++ (wsV RX12 390 RX12 yX12_times wsRX12_times) ++ (wsV RX12 369 RX12 yX12_put wsRX12_put) ++ (wsV RX12 856 RX12 yX12_thing wsRX12_thing) ++ (wsV RX12 900 RX12 yX12_isEqual wsRX12_isEqual) ++ (wsV RX12 443 RX12 yX12_add wsRX12_add) ++ (wsV RX12 365 RX12 yX12_copy wsRX12_copy))
theorem iwsRX12_multipliers_in12 : ∀ w ∈ wsX120, w ∈ wsRX12_multipliers := fun _ h => List.mem_cons_of_mem _ (List.mem_append_left _ (List.mem_append_left _ (List.mem_append_left _ (List.mem_append_left _ (List.mem_append_left _ (List.mem_append_left _ (List.mem_append_right _ h)))))))
theorem gwsRX12_multipliers_0 : GoodIn wsRX12_multipliers (wsV RX12 390 RX12 yX12_times wsRX12_times) := goodIn_sub (fun _ h => List.mem_cons_of_mem _ (List.mem_append_left _ (List.mem_append_left _ (List.mem_append_left _ (List.mem_append_left _ (List.mem_append_left _ (List.mem_append_right _ h))))))) (gdV (by decide +kernel) gdwsRX12_times)
theorem gwsRX12_multipliers_1 : GoodIn wsRX12_multipliers (wsV RX12 369 RX12 yX12_put wsRX12_put) := goodIn_sub (fun _ h => List.mem_cons_of_mem _ (List.mem_append_left _ (List.mem_append_left _ (List.mem_append_left _ (List.mem_append_left _ (List.mem_append_right _ h)))))) (gdV (by decide +kernel) gdwsRX12_put)
theorem gwsRX12_multipliers_2 : GoodIn wsRX12_multipliers (wsV RX12 856 RX12 yX12_thing wsRX12_thing) := goodIn_sub (fun _ h => List.mem_cons_of_mem _ (List.mem_append_left _ (List.mem_append_left _ (List.mem_append_left _ (List.mem_append_right _ h))))) (gdV (by decide +kernel) gdwsRX12_thing)
theorem gwsRX12_multipliers_3 : GoodIn wsRX12_multipliers (wsV RX12 900 RX12 yX12_isEqual wsRX12_isEqual) := goodIn_sub (fun _ h => List.mem_cons_of_mem _ (List.mem_append_left _ (List.mem_append_left _ (List.mem_append_right _ h)))) (gdV (by decide +kernel) gdwsRX12_isEqual)
theorem gwsRX12_multipliers_4 : GoodIn wsRX12_multipliers (wsV RX12 443 RX12 yX12_add wsRX12_add) := goodIn_sub (fun _ h => List.mem_cons_of_mem _ (List.mem_append_left _ (List.mem_append_right _ h))) (gdV (by decide +kernel) gdwsRX12_add)
theorem gwsRX12_multipliers_5 : GoodIn wsRX12_multipliers (wsV RX12 365 RX12 yX12_copy wsRX12_copy) := goodIn_sub (fun _ h => List.mem_cons_of_mem _ (List.mem_append_right _ h)) (gdV (by decide +kernel) gdwsRX12_copy)
theorem gdwsRX12_multipliers : wsRX12_multipliers.all goodWord = true := gdC rfl (gdA (gdA (gdA (gdA (gdA (gdA (gdA (by decide +kernel : ([.fieldLink RX12 894 "OptimaWorksModel" "needs" "I", .fieldLink RX12 242 "OptimaWorksModel" "needKept" "[I", .fieldLink RX12 245 "OptimaWorksModel" "needColumn" "[I"] : List Cond).all goodWord = true) gdwsX120) (gdV (by decide +kernel) gdwsRX12_times)) (gdV (by decide +kernel) gdwsRX12_put)) (gdV (by decide +kernel) gdwsRX12_thing)) (gdV (by decide +kernel) gdwsRX12_isEqual)) (gdV (by decide +kernel) gdwsRX12_add)) (gdV (by decide +kernel) gdwsRX12_copy))
theorem hm_r_X12_multipliers_0 : (.fieldLink RX12 245 "OptimaWorksModel" "needColumn" "[I" : Cond) ∈ wsRX12_multipliers := by decide +kernel
set_option maxHeartbeats 4000000 in
set_option maxRecDepth 100000 in
/-- multipliers() -/
theorem r_X12_multipliers (l : Launch) (dC : Nat → ClassId) (dI : Nat → Nat → Nat) (a : Nat → Nat) (k : Nat → ClassId) (h0 : Nat) (vi : Nat → Int32) (vj : Nat → Int64) (vF : Nat → Nat → Int32) (vG : Nat → Nat → Int64) (C : Nat) (R : Nat) (Gq : Nat) (t : Nat → Nat → Int) (D : Int) (vn : Nat) (mr : Nat) (z : Nat) (nd : Nat) (mg : Nat → Int) (hBg : Bg (vF 0) mg) (hC : vi 5 = nI C) (hR : vi 6 = nI R) (hG : vi 7 = nI Gq) (hC45 : 0 < C ∧ C ≤ 45) (hT60 : R + Gq < 60) (hsz : (R + Gq) * (C + 1) ≤ 970) (hTN : TabN C (R + Gq) mg t D) (hbt : ∀ i, i < R → Sz 258 (t i C)) (hDp : 0 < D ∧ Sz 258 D) (h45 : 0 < mg 1045 ∧ Sz 67 (mg 1045)) (hvn8 : vn ≤ 8) (hmr12 : mr ≤ 12) (hnd : vi 119 = nI nd) (hN : NdO (vF 71) (vF 72) vn mr z nd) (sz : Nat) : Met l yX12_multipliers wsRX12_multipliers ({ frames := 2, cells := 0, slots := 0, locals := 63 }) (va_Pc [.ref h0] (fun U => U.heap.size = sz ∧ va_P (dC, dI) vwCl (WR a k h0 vi vj vF vG) U.heap ∧ va_K (dC, dI) vwCl (tX12 k) U ∧ va_D (fun _ => True) (WR a k h0 vi vj vF vG))) (va_Qv (fun (u : (Nat → Int32) × (Nat → Int64) × (Nat → Int)) => (Bg (u.1) (u.2.2)) ∧ (0 < (u.2.2) 1052) ∧ (∀ q, 1000 ≤ q → (q < 1060 ∨ 1088 ≤ q) → q ≠ 1052 → (u.2.2) q = mg q)) (fun (u : (Nat → Int32) × (Nat → Int64) × (Nat → Int)) t => va_P (dC, dI) vwCl (WR a k h0 vi vj (fT vF 0 (u.1)) (fT vG 1 (u.2.1))) t.heap ∧ va_D (va_A (WR a k h0 vi vj vF vG) sz) (WR a k h0 vi vj (fT vF 0 (u.1)) (fT vG 1 (u.2.1)))) (va_A (WR a k h0 vi vj vF vG) sz)) 0 0 (va_A (WR a k h0 vi vj vF vG) sz) := by
  refine Met.ofW (cc := cX12_multipliers) (maxL := 2) (ret := none) (by decide) rfl ?_
  intro p e s m args below meth c s₁ B hml hv
  obtain ⟨rfl, hsz, hP, hK, hD0⟩ := hv
  have hx := B.exec
  have hb := B.bytes
  have hr := B.returns
  have hts := atoms_spec (ws := wsRX12_multipliers) B.pre
  have hown : s.vm.findClass RX12 = some m.cls := findClass_of_methodNamed B.named
  have hlocks := B.notSynchronized
  subst hsz
  have hD := hD0.self (sz := s.heap.size)
  generalize hAe : va_A (WR a k h0 vi vj vF vG) s.heap.size = A at hD ⊢
  have hA : ∀ q : Nat, s.heap.size ≤ q → A q := fun q h => by rw [← hAe]; exact Or.inr h
  have hS : va_S A s.heap s.heap [] := va_S.rf
  have hl := lv_entry ([.ref h0]) (n := 2) (Nat.le_of_ble_eq_true rfl)
  rw [lg_entry_eq]
  generalize (lg_sl ([.ref h0]) ++ List.replicate (2 - (lg_sl ([.ref h0])).length) Slot.unset).toArray = ls at hl ⊢
  have hl : lv_has ls 2 [(0, .ref h0)] := hl
  have hz1 : nd ≤ 28 := by have h1 := hN.1; have h2 := hN.2.2.1; omega
  refine lv_iconst (v := 0) hx hb dX12_multipliers_0 (by decide) ?_
  refine lv_istore_n hx hb dX12_multipliers_1 rfl hl (by decide) rfl (fun ls (hl : lv_has ls _ ([(1, .int 0), (0, .ref h0)])) => ?_)
  have e9 : fT vF 0 (vF 0) = vF := by funext q9; by_cases h9_0 : q9 = 0; (subst h9_0; exact (fT_eq _ _ _).trans (Eq.trans (by first | with_reducible rfl | with_reducible assumption | (symm; with_reducible assumption) | rfl | assumption | (symm; assumption) | (subst_vars; rfl)) (Eq.refl _).symm)); exact (fT_ne _ _ h9_0).trans (Eq.refl _).symm
  have hP := wr_PF e9 hP
  have hD := wr_DF e9 hD
  clear e9
  have e9 : fT vG 1 (vG 1) = vG := by funext q9; by_cases h9_1 : q9 = 1; (subst h9_1; exact (fT_eq _ _ _).trans (Eq.trans (by first | with_reducible rfl | with_reducible assumption | (symm; with_reducible assumption) | rfl | assumption | (symm; assumption) | (subst_vars; rfl)) (Eq.refl _).symm)); exact (fT_ne _ _ h9_1).trans (Eq.refl _).symm
  have hP := wr_PG e9 hP
  have hD := wr_DG e9 hD
  clear e9
  have hl : lv_has _ _ ([(0, .ref h0), (1, .int (nI 0))]) := lv_sub hl [1, 0] rfl
  refine (fun (loop : ∀ (n9 : Nat) (i5 : Nat) (g1 : Nat → Int32) (gs1 : Nat → Int64) (m1 : Nat → Int) (H : Heap) (locs : List Loc) (ls : Array Slot), (Bg g1 m1) → (i5 ≤ nd) → (∀ q, q ≠ 22 → q ≠ 23 → q ≠ 24 → (q < 1060 ∨ 1088 ≤ q) → m1 q = mg q) →  (nd < i5 + n9) → va_P (dC, dI) vwCl (WR a k h0 vi vj (fT vF 0 g1) (fT vG 1 gs1)) H → va_D A (WR a k h0 vi vj (fT vF 0 g1) (fT vG 1 gs1)) → va_S A s.heap H locs → lv_has ls 2 [(0, .ref h0), (1, .int (nI i5))] → W p l e _ s m _ below meth c H locs 0 0 _ (F0 m 2 ls [])) => loop (nd + 1) 0 (vF 0) (vG 1) mg _ _ _ (hBg) (by omega) (fun q _ _ _ _ => rfl) (by omega) hP hD hS hl) ?_
  intro n9
  induction n9 with
  | zero => intro i5 g1 gs1 m1 H locs ls hB1 hi5 ho hf9; exact False.elim (by omega)
  | succ n9 ih2 =>
    intro i5 g1 gs1 m1 H locs ls hB1 hi5 ho hf2 hP hD hS hl
    refine lv_iload_n hx hb dX12_multipliers_2 rfl (lv_at hl 1 rfl) ?_
    refine lv_aload_n hx hb dX12_multipliers_3 rfl (lv_at hl 0 rfl) ?_
    refine va_get (D := (dC, dI)) (ci := 12) (v := .int (vi 119)) (C := RX12) (T := TX12) (N := 163) (fs := fM (vS a vi vj)) hx hb hts iwsRX12_multipliers_in12 hown hK hP 0 rfl rfl 119 (by decide) (hts (.fieldLink RX12 894 "OptimaWorksModel" "needs" "I") (by decide +kernel)) (fun _ h9 => h9) rfl dX12_multipliers_4 ?_
    refine lv_topi (fun y1 hy1 => ?_)
    obtain rfl : (nI nd) = y1 := (hy1.trans (hnd)).symm
    refine lv_icmp_ge (tgt := 102) hx hb dX12_multipliers_7 (by decide) (fun c_7 => ?_) (fun c_7 => ?_)
    · have t_7 : ((i5 : Nat) : Int) ≥ ((nd : Nat) : Int) := toI_ge c_7 (nI_toInt (by omega)) (nI_toInt (by omega))
      refine lv_aload_n hx hb dX12_multipliers_102 rfl (lv_at hl 0 rfl) ?_
      refine lv_sipush (v := 1052) hx hb dX12_multipliers_103 (by decide) ?_
      refine lv_bipush (v := 20) hx hb dX12_multipliers_106 (by decide) ?_
      refine lv_sipush (v := 1045) hx hb dX12_multipliers_108 (by decide) ?_
      have hFc := allFree hD hS hA
      refine va_callv (va_runV (As := [.int 1052, .int 20, .int 1045]) (rest := []) ⟨hx, hb, hml, hown, hts⟩ (b_X12_times l dC dI a k h0 vi vj (fT vF 0 g1) (fT vG 1 gs1) 1052 20 1045 m1 hB1 (m1 20) (m1 1045) rfl rfl (by first | with_reducible assumption | decide | omega | rfl | assumption) (by first | with_reducible assumption | decide | omega | rfl | assumption) (by first | with_reducible assumption | decide | omega | rfl | assumption) (by rw [ho 20 (by omega) (by omega) (by omega) (by omega), ho 1045 (by omega) (by omega) (by omega) (by omega), hTN.2]; exact mulpN (c := 588) hDp.2 h45.2 (by decide)) H.size) (cwV 3 hts gwsRX12_multipliers_0 rfl rfl rfl hd_yX12_times_RX12 (by decide +kernel)) (fz_pre (va_recv hK hP (ci := 12) (q0 := 0) rfl rfl) hP hK hD) rfl rfl hl.1 rfl (lv_room (Nat.le_of_ble_eq_true rfl)) dX12_multipliers_111 (by decide +kernel)) hS (fun q _ h => hFc q h) hFc (fun u t9_ H locs ht hvm hw9 hB9 hz1 hk1 hS => ?_)
      revert u hw9 hB9
      refine fz_p2 ?_
      intro g111 gs111 hw9 hB9
      try dsimp only at hw9 hB9
      have e9F : fT vF 0 g111 = fT (fT vF 0 g1) 0 g111 := (fT_sm _ _ _ _).symm
      have e9G : fT vG 1 gs111 = fT (fT vG 1 gs1) 1 gs111 := (fT_sm _ _ _ _).symm
      have hP := wr_PG e9G (wr_PF e9F (fz_P ht hB9.1))
      have hD := wr_DG e9G (wr_DF e9F (hB9.2.weaken (fun _ q _ h => hFc q.1 h)))
      clear e9F e9G
      have f111_0 := hw9
      try dsimp only at f111_0
      refine W.widen (k := 0) (n := 0) (by decide +kernel) (by decide +kernel) ?_
      exact W.vret hx hb hr (fun t9_ ht hW => ⟨⟨(g111, gs111, (fT m1 1052 ((m1 20) * (m1 1045)))), rfl, by (try dsimp only); exact ⟨f111_0, by rw [fT_eq, ho 20 (by omega) (by omega) (by omega) (by omega), ho 1045 (by omega) (by omega) (by omega) (by omega), hTN.2]; exact Int.mul_pos hDp.1 h45.1, fun q h1 h2 h3 => by (rw [fT_ne _ _ (by omega)]); exact ho q (by omega) (by omega) (by omega) h2⟩, by rw [ht]; exact hP, hD⟩, hS.F ht⟩) hS.2.2 dX12_multipliers_114
    · have t_7 : ¬ ((i5 : Nat) : Int) ≥ ((nd : Nat) : Int) := toI_nge c_7 (nI_toInt (by omega)) (nI_toInt (by omega))
      refine lv_aload_n hx hb dX12_multipliers_10 rfl (lv_at hl 0 rfl) ?_
      refine lv_sipush (v := 1060) hx hb dX12_multipliers_11 (by decide) ?_
      refine lv_iload_n hx hb dX12_multipliers_14 rfl (lv_at hl 1 rfl) ?_
      refine lv_iadd hx hb dX12_multipliers_15 ?_
      refine lv_topi (fun y2 hy2 => ?_)
      obtain rfl : (nI (1060 + i5)) = y2 := (hy2.trans (nI_add 1060 i5)).symm
      refine lv_lconst (v := 0) hx hb dX12_multipliers_16 (by decide) ?_
      have hFc := allFree hD hS hA
      refine va_callv (va_runV (As := [.int (nI (1060 + i5)), .long 0]) (rest := []) ⟨hx, hb, hml, hown, hts⟩ (b_X12_put l dC dI a k h0 vi vj (fT vF 0 g1) (fT vG 1 gs1) (1060 + i5) 0 0 m1 hB1 (by first | with_reducible assumption | decide | omega | rfl | assumption) (by decide) (by first | with_reducible assumption | decide | omega | rfl | assumption) H.size) (cwV 2 hts gwsRX12_multipliers_1 rfl rfl rfl hd_yX12_put_RX12 (by decide +kernel)) (fz_pre (va_recv hK hP (ci := 12) (q0 := 0) rfl rfl) hP hK hD) rfl rfl hl.1 rfl (lv_room (Nat.le_of_ble_eq_true rfl)) dX12_multipliers_17 (by decide +kernel)) hS (fun q _ h => hFc q h) hFc (fun g17 t9_ H locs ht hvm hw9 hB9 hz1 hk1 hS => ?_)
      have e9F : fT vF 0 g17 = fT (fT vF 0 g1) 0 g17 := (fT_sm _ _ _ _).symm
      have hP := wr_PF e9F (fz_P ht hB9.1)
      have hD := wr_DF e9F (hB9.2.weaken (fun _ q _ h => hFc q.1 h))
      clear e9F
      have f17_0 := hw9
      try dsimp only at f17_0
      refine lv_aload_n hx hb dX12_multipliers_20 rfl (lv_at hl 0 rfl) ?_
      refine va_get (D := (dC, dI)) (ci := 12) (v := .ref (a 73)) (C := RX12) (T := TX12) (N := 163) (fs := fM (vS a vi vj)) hx hb hts iwsRX12_multipliers_in12 hown hK hP 0 rfl rfl 122 (by decide) (hts (.fieldLink RX12 242 "OptimaWorksModel" "needKept" "[I") (by decide +kernel)) (fun _ h9 => h9) rfl dX12_multipliers_21 ?_
      refine lv_iload_n hx hb dX12_multipliers_24 rfl (lv_at hl 1 rfl) ?_
      refine va_iald (cA := k 73) (n := 28) (f := (vF 73)) hx hb hK hP 74 73 (WR_get 73 (by decide)) (TR_get 73 (by decide)) (vp_in_nI (show i5 < 28 by omega) (by omega)) dX12_multipliers_25 ?_
      refine lv_topi (fun y3 hy3 => ?_)
      obtain rfl : ((vF 73) i5) = y3 := (hy3.trans (by rw [nI_clamp (by omega)])).symm
      refine lv_if_ne (tgt := 32) hx hb dX12_multipliers_26 (by decide) (fun c_26 => ?_) (fun c_26 => ?_)
      · have t_26 : (((vF 73) i5)).toInt ≠ 0 := toI_ne c_26 rfl (by decide)
        refine lv_aload_n hx hb dX12_multipliers_32 rfl (lv_at hl 0 rfl) ?_
        refine lv_bipush (v := 22) hx hb dX12_multipliers_33 (by decide) ?_
        refine lv_aload_n hx hb dX12_multipliers_35 rfl (lv_at hl 0 rfl) ?_
        refine va_get (D := (dC, dI)) (ci := 12) (v := .ref (a 74)) (C := RX12) (T := TX12) (N := 163) (fs := fM (vS a vi vj)) hx hb hts iwsRX12_multipliers_in12 hown hK hP 0 rfl rfl 123 (by decide) (hts _ hm_r_X12_multipliers_0) (fun _ h9 => h9) rfl dX12_multipliers_36 ?_
        refine lv_iload_n hx hb dX12_multipliers_39 rfl (lv_at hl 1 rfl) ?_
        refine va_iald (cA := k 74) (n := 28) (f := (vF 74)) hx hb hK hP 75 74 (WR_get 74 (by decide)) (TR_get 74 (by decide)) (vp_in_nI (show i5 < 28 by omega) (by omega)) dX12_multipliers_40 ?_
        refine lv_topi (fun y4 hy4 => ?_)
        obtain rfl : ((vF 74) i5) = y4 := (hy4.trans (by rw [nI_clamp (by omega)])).symm
        have hFc := allFree hD hS hA
        refine va_callv (va_runV (As := [.int 22, .int ((vF 74) i5)]) (rest := []) ⟨hx, hb, hml, hown, hts⟩ (r_X12_thing l dC dI a k h0 vi vj (fT vF 0 g17) (fT vG 1 gs1) 22 ((vF 74) i5) C R Gq t D (fT m1 (1060 + i5) 0) f17_0 (by first | with_reducible assumption | decide | omega | rfl | assumption) (by first | with_reducible assumption | decide | omega | rfl | assumption) (by first | with_reducible assumption | decide | omega | rfl | assumption) (by first | with_reducible assumption | decide | omega | rfl | assumption) (by first | with_reducible assumption | decide | omega | rfl | assumption) (by first | with_reducible assumption | decide | omega | rfl | assumption) (hTN.framez hsz (fun p hp => by (rw [fT_ne _ _ (by omega)]); exact ho p (by omega) (by omega) (by omega) (by omega))) (by first | with_reducible assumption | decide | omega | rfl | assumption) (by first | with_reducible assumption | decide | omega | rfl | assumption) H.size) (cwV 2 hts gwsRX12_multipliers_2 rfl rfl rfl hd_yX12_thing_RX12 (by decide +kernel)) (fz_pre (va_recv hK hP (ci := 12) (q0 := 0) rfl rfl) hP hK hD) rfl rfl hl.1 rfl (lv_room (Nat.le_of_ble_eq_true rfl)) dX12_multipliers_41 (by decide +kernel)) hS (fun q _ h => hFc q h) hFc (fun u t9_ H locs ht hvm hw9 hB9 hz1 hk1 hS => ?_)
        revert u hw9 hB9
        refine fz_p2 ?_
        intro g41 m241 hw9 hB9
        try dsimp only at hw9 hB9
        have e9F : fT vF 0 g41 = fT (fT vF 0 g17) 0 g41 := (fT_sm _ _ _ _).symm
        have hP := wr_PF e9F (fz_P ht hB9.1)
        have hD := wr_DF e9F (hB9.2.weaken (fun _ q _ h => hFc q.1 h))
        clear e9F
        revert hw9
        refine fz_a3 ?_
        intro f41_0 f41_1 f41_2
        have s22 : Sz 258 (m241 22) := by rcases f41_1 with h9 | ⟨i9, hi9, h9⟩; (rw [h9]; exact (by decide : (0 : Int).natAbs < 2 ^ 258)); (rw [h9]; exact hbt i9 hi9)
        refine lv_aload_n hx hb dX12_multipliers_44 rfl (lv_at hl 0 rfl) ?_
        refine lv_iload_n hx hb dX12_multipliers_45 rfl (lv_at hl 1 rfl) ?_
        have hFc := allFree hD hS hA
        refine va_calli (va_runV (As := [.int (nI i5)]) (rest := []) ⟨hx, hb, hml, hown, hts⟩ (r_X12_isEqual l dC dI a k h0 vi vj (fT vF 0 g41) (fT vG 1 gs1) i5 vn mr z nd (hN) (by first | with_reducible assumption | decide | omega | rfl | assumption) (by first | with_reducible assumption | decide | omega | rfl | assumption) (by first | with_reducible assumption | decide | omega | rfl | assumption) H.size) (cwV 1 hts gwsRX12_multipliers_3 rfl rfl rfl hd_yX12_isEqual_RX12 (by decide +kernel)) (fz_pre (va_recv hK hP (ci := 12) (q0 := 0) rfl rfl) hP hK hD) rfl rfl hl.1 rfl (lv_room (Nat.le_of_ble_eq_true rfl)) dX12_multipliers_46 (by decide +kernel)) hS (fun q _ h => hFc q h) hFc (fun r46 u t9_ H locs ht hvm hw9 hB9 hz1 hk1 hS => ?_)
        have hP : va_P (dC, dI) vwCl (WR a k h0 vi vj (fT vF 0 g41) (fT vG 1 gs1)) H := fz_P ht hB9.1
        have hD := fz_sd hP (hB9.2.weaken (fun _ q _ h => hFc q.1 h)) rfl
        rcases hw9 with ⟨rfl, f46_0⟩ | ⟨rfl, f46_0⟩
        · have f46_0 : EqP (vF 61) (vF 71) (vF 72) i5 := f46_0
          refine lv_if_eq (tgt := 85) hx hb dX12_multipliers_49 (by decide) (fun c9 => absurd c9 (by decide)) (fun _ => ?_)
          refine lv_aload_n hx hb dX12_multipliers_52 rfl (lv_at hl 0 rfl) ?_
          refine lv_bipush (v := 23) hx hb dX12_multipliers_53 (by decide) ?_
          refine lv_aload_n hx hb dX12_multipliers_55 rfl (lv_at hl 0 rfl) ?_
          refine va_get (D := (dC, dI)) (ci := 12) (v := .ref (a 74)) (C := RX12) (T := TX12) (N := 163) (fs := fM (vS a vi vj)) hx hb hts iwsRX12_multipliers_in12 hown hK hP 0 rfl rfl 123 (by decide) (hts _ hm_r_X12_multipliers_0) (fun _ h9 => h9) rfl dX12_multipliers_56 ?_
          refine lv_iload_n hx hb dX12_multipliers_59 rfl (lv_at hl 1 rfl) ?_
          refine va_iald (cA := k 74) (n := 28) (f := (vF 74)) hx hb hK hP 75 74 (WR_get 74 (by decide)) (TR_get 74 (by decide)) (vp_in_nI (show i5 < 28 by omega) (by omega)) dX12_multipliers_60 ?_
          refine lv_topi (fun y5 hy5 => ?_)
          obtain rfl : ((vF 74) i5) = y5 := (hy5.trans (by rw [nI_clamp (by omega)])).symm
          refine lv_iconst (v := 1) hx hb dX12_multipliers_61 (by decide) ?_
          refine lv_iadd hx hb dX12_multipliers_62 ?_
          have hFc := allFree hD hS hA
          refine va_callv (va_runV (As := [.int 23, .int (((vF 74) i5) + 1)]) (rest := []) ⟨hx, hb, hml, hown, hts⟩ (r_X12_thing l dC dI a k h0 vi vj (fT vF 0 g41) (fT vG 1 gs1) 23 (((vF 74) i5) + 1) C R Gq t D m241 f41_0 (by first | with_reducible assumption | decide | omega | rfl | assumption) (by first | with_reducible assumption | decide | omega | rfl | assumption) (by first | with_reducible assumption | decide | omega | rfl | assumption) (by first | with_reducible assumption | decide | omega | rfl | assumption) (by first | with_reducible assumption | decide | omega | rfl | assumption) (by first | with_reducible assumption | decide | omega | rfl | assumption) (hTN.framez hsz (fun p hp => by (rw [f41_2 _ (by omega), fT_ne _ _ (by omega)]); exact ho p (by omega) (by omega) (by omega) (by omega))) (by first | with_reducible assumption | decide | omega | rfl | assumption) (by first | with_reducible assumption | decide | omega | rfl | assumption) H.size) (cwV 2 hts gwsRX12_multipliers_2 rfl rfl rfl hd_yX12_thing_RX12 (by decide +kernel)) (fz_pre (va_recv hK hP (ci := 12) (q0 := 0) rfl rfl) hP hK hD) rfl rfl hl.1 rfl (lv_room (Nat.le_of_ble_eq_true rfl)) dX12_multipliers_63 (by decide +kernel)) hS (fun q _ h => hFc q h) hFc (fun u t9_ H locs ht hvm hw9 hB9 hz1 hk1 hS => ?_)
          revert u hw9 hB9
          refine fz_p2 ?_
          intro g63 m263 hw9 hB9
          try dsimp only at hw9 hB9
          have e9F : fT vF 0 g63 = fT (fT vF 0 g41) 0 g63 := (fT_sm _ _ _ _).symm
          have hP := wr_PF e9F (fz_P ht hB9.1)
          have hD := wr_DF e9F (hB9.2.weaken (fun _ q _ h => hFc q.1 h))
          clear e9F
          revert hw9
          refine fz_a3 ?_
          intro f63_0 f63_1 f63_2
          have s23 : Sz 258 (m263 23) := by rcases f63_1 with h9 | ⟨i9, hi9, h9⟩; (rw [h9]; exact (by decide : (0 : Int).natAbs < 2 ^ 258)); (rw [h9]; exact hbt i9 hi9)
          refine lv_aload_n hx hb dX12_multipliers_66 rfl (lv_at hl 0 rfl) ?_
          refine lv_bipush (v := 24) hx hb dX12_multipliers_67 (by decide) ?_
          refine lv_bipush (v := 22) hx hb dX12_multipliers_69 (by decide) ?_
          refine lv_bipush (v := 23) hx hb dX12_multipliers_71 (by decide) ?_
          refine lv_iconst (v := (-1)) hx hb dX12_multipliers_73 (by decide) ?_
          have hFc := allFree hD hS hA
          refine va_callv (va_runV (As := [.int 24, .int 22, .int 23, .int (-1)]) (rest := []) ⟨hx, hb, hml, hown, hts⟩ (b_X12_add l dC dI a k h0 vi vj (fT vF 0 g63) (fT vG 1 gs1) 24 (-1) (-1) 22 23 m263 f63_0 (m241 22) (m263 23) (by rw [f63_2 _ (by omega)]) rfl (by first | with_reducible assumption | decide | omega | rfl | assumption) (by first | with_reducible assumption | decide | omega | rfl | assumption) (by first | with_reducible assumption | decide | omega | rfl | assumption) (Or.inr ⟨rfl, rfl⟩) (lift616 (k := 259) (sub259 s22 s23) (by decide)) H.size) (cwV 4 hts gwsRX12_multipliers_4 rfl rfl rfl hd_yX12_add_RX12 (by decide +kernel)) (fz_pre (va_recv hK hP (ci := 12) (q0 := 0) rfl rfl) hP hK hD) rfl rfl hl.1 rfl (lv_room (Nat.le_of_ble_eq_true rfl)) dX12_multipliers_74 (by decide +kernel)) hS (fun q _ h => hFc q h) hFc (fun u t9_ H locs ht hvm hw9 hB9 hz1 hk1 hS => ?_)
          revert u hw9 hB9
          refine fz_p2 ?_
          intro g74 gs74 hw9 hB9
          try dsimp only at hw9 hB9
          have e9F : fT vF 0 g74 = fT (fT vF 0 g63) 0 g74 := (fT_sm _ _ _ _).symm
          have e9G : fT vG 1 gs74 = fT (fT vG 1 gs1) 1 gs74 := (fT_sm _ _ _ _).symm
          have hP := wr_PG e9G (wr_PF e9F (fz_P ht hB9.1))
          have hD := wr_DG e9G (wr_DF e9F (hB9.2.weaken (fun _ q _ h => hFc q.1 h)))
          clear e9F e9G
          have f74_0 := hw9
          try dsimp only at f74_0
          refine lv_aload_n hx hb dX12_multipliers_77 rfl (lv_at hl 0 rfl) ?_
          refine lv_bipush (v := 22) hx hb dX12_multipliers_78 (by decide) ?_
          refine lv_bipush (v := 24) hx hb dX12_multipliers_80 (by decide) ?_
          have hFc := allFree hD hS hA
          refine va_callv (va_runV (As := [.int 22, .int 24]) (rest := []) ⟨hx, hb, hml, hown, hts⟩ (b_X12_copy l dC dI a k h0 vi vj (fT vF 0 g74) (fT vG 1 gs74) 22 24 (fT m263 24 ((m241 22) + (-1) * (m263 23))) f74_0 ((m241 22) + (-1) * (m263 23)) (by rw [fT_eq]) (by first | with_reducible assumption | decide | omega | rfl | assumption) (by first | with_reducible assumption | decide | omega | rfl | assumption) (by first | with_reducible assumption | decide | omega | rfl | assumption) H.size) (cwV 2 hts gwsRX12_multipliers_5 rfl rfl rfl hd_yX12_copy_RX12 (by decide +kernel)) (fz_pre (va_recv hK hP (ci := 12) (q0 := 0) rfl rfl) hP hK hD) rfl rfl hl.1 rfl (lv_room (Nat.le_of_ble_eq_true rfl)) dX12_multipliers_82 (by decide +kernel)) hS (fun q _ h => hFc q h) hFc (fun g82 t9_ H locs ht hvm hw9 hB9 hz1 hk1 hS => ?_)
          have e9F : fT vF 0 g82 = fT (fT vF 0 g74) 0 g82 := (fT_sm _ _ _ _).symm
          have hP := wr_PF e9F (fz_P ht hB9.1)
          have hD := wr_DF e9F (hB9.2.weaken (fun _ q _ h => hFc q.1 h))
          clear e9F
          have f82_0 := hw9
          try dsimp only at f82_0
          refine lv_aload_n hx hb dX12_multipliers_85 rfl (lv_at hl 0 rfl) ?_
          refine lv_sipush (v := 1060) hx hb dX12_multipliers_86 (by decide) ?_
          refine lv_iload_n hx hb dX12_multipliers_89 rfl (lv_at hl 1 rfl) ?_
          refine lv_iadd hx hb dX12_multipliers_90 ?_
          refine lv_topi (fun y6 hy6 => ?_)
          obtain rfl : (nI (1060 + i5)) = y6 := (hy6.trans (nI_add 1060 i5)).symm
          refine lv_bipush (v := 22) hx hb dX12_multipliers_91 (by decide) ?_
          have hFc := allFree hD hS hA
          refine va_callv (va_runV (As := [.int (nI (1060 + i5)), .int 22]) (rest := []) ⟨hx, hb, hml, hown, hts⟩ (b_X12_copy l dC dI a k h0 vi vj (fT vF 0 g82) (fT vG 1 gs74) (1060 + i5) 22 (fT (fT m263 24 ((m241 22) + (-1) * (m263 23))) 22 ((m241 22) + (-1) * (m263 23))) f82_0 ((m241 22) + (-1) * (m263 23)) (by rw [fT_eq]) (by first | with_reducible assumption | decide | omega | rfl | assumption) (by first | with_reducible assumption | decide | omega | rfl | assumption) (by first | with_reducible assumption | decide | omega | rfl | assumption) H.size) (cwV 2 hts gwsRX12_multipliers_5 rfl rfl rfl hd_yX12_copy_RX12 (by decide +kernel)) (fz_pre (va_recv hK hP (ci := 12) (q0 := 0) rfl rfl) hP hK hD) rfl rfl hl.1 rfl (lv_room (Nat.le_of_ble_eq_true rfl)) dX12_multipliers_93 (by decide +kernel)) hS (fun q _ h => hFc q h) hFc (fun g93 t9_ H locs ht hvm hw9 hB9 hz1 hk1 hS => ?_)
          have e9F : fT vF 0 g93 = fT (fT vF 0 g82) 0 g93 := (fT_sm _ _ _ _).symm
          have hP := wr_PF e9F (fz_P ht hB9.1)
          have hD := wr_DF e9F (hB9.2.weaken (fun _ q _ h => hFc q.1 h))
          clear e9F
          have f93_0 := hw9
          try dsimp only at f93_0
          refine lv_iinc (v := (nI (i5 + 1))) hx hb dX12_multipliers_96 hl (k := 1) rfl (nI_add i5 1) (by decide) rfl (fun ls (hl : lv_has ls _ ([(1, .int (nI (i5 + 1))), (0, .ref h0)])) => ?_)
          refine lv_goto (tgt := 2) hx hb dX12_multipliers_99 (by decide) ?_
          have hl : lv_has _ _ ([(0, .ref h0), (1, .int (nI (i5 + 1)))]) := lv_sub hl [1, 0] rfl
          exact ih2 (i5 + 1) g93 gs74 (fT (fT (fT m263 24 ((m241 22) + (-1) * (m263 23))) 22 ((m241 22) + (-1) * (m263 23))) (1060 + i5) ((m241 22) + (-1) * (m263 23))) _ _ _ (f93_0) (by omega) (fun q h1 h2 h3 h4 => by (rw [fT_ne _ _ (by omega), fT_ne _ _ (by omega), fT_ne _ _ (by omega), f63_2 _ (by omega), f41_2 _ (by omega), fT_ne _ _ (by omega)]); exact ho q h1 h2 h3 h4) (by omega) hP hD hS hl
        · have f46_0 : ¬ EqP (vF 61) (vF 71) (vF 72) i5 := f46_0
          refine lv_if_eq (tgt := 85) hx hb dX12_multipliers_49 (by decide) (fun _ => ?_) (fun c9 => absurd (by decide) c9)
          refine lv_aload_n hx hb dX12_multipliers_85 rfl (lv_at hl 0 rfl) ?_
          refine lv_sipush (v := 1060) hx hb dX12_multipliers_86 (by decide) ?_
          refine lv_iload_n hx hb dX12_multipliers_89 rfl (lv_at hl 1 rfl) ?_
          refine lv_iadd hx hb dX12_multipliers_90 ?_
          refine lv_topi (fun y7 hy7 => ?_)
          obtain rfl : (nI (1060 + i5)) = y7 := (hy7.trans (nI_add 1060 i5)).symm
          refine lv_bipush (v := 22) hx hb dX12_multipliers_91 (by decide) ?_
          have hFc := allFree hD hS hA
          refine va_callv (va_runV (As := [.int (nI (1060 + i5)), .int 22]) (rest := []) ⟨hx, hb, hml, hown, hts⟩ (b_X12_copy l dC dI a k h0 vi vj (fT vF 0 g41) (fT vG 1 gs1) (1060 + i5) 22 m241 f41_0 (m241 22) rfl (by first | with_reducible assumption | decide | omega | rfl | assumption) (by first | with_reducible assumption | decide | omega | rfl | assumption) (by first | with_reducible assumption | decide | omega | rfl | assumption) H.size) (cwV 2 hts gwsRX12_multipliers_5 rfl rfl rfl hd_yX12_copy_RX12 (by decide +kernel)) (fz_pre (va_recv hK hP (ci := 12) (q0 := 0) rfl rfl) hP hK hD) rfl rfl hl.1 rfl (lv_room (Nat.le_of_ble_eq_true rfl)) dX12_multipliers_93 (by decide +kernel)) hS (fun q _ h => hFc q h) hFc (fun g93_1 t9_ H locs ht hvm hw9 hB9 hz1 hk1 hS => ?_)
          have e9F : fT vF 0 g93_1 = fT (fT vF 0 g41) 0 g93_1 := (fT_sm _ _ _ _).symm
          have hP := wr_PF e9F (fz_P ht hB9.1)
          have hD := wr_DF e9F (hB9.2.weaken (fun _ q _ h => hFc q.1 h))
          clear e9F
          have f93_1_0 := hw9
          try dsimp only at f93_1_0
          refine lv_iinc (v := (nI (i5 + 1))) hx hb dX12_multipliers_96 hl (k := 1) rfl (nI_add i5 1) (by decide) rfl (fun ls (hl : lv_has ls _ ([(1, .int (nI (i5 + 1))), (0, .ref h0)])) => ?_)
          refine lv_goto (tgt := 2) hx hb dX12_multipliers_99 (by decide) ?_
          have hl : lv_has _ _ ([(0, .ref h0), (1, .int (nI (i5 + 1)))]) := lv_sub hl [1, 0] rfl
          exact ih2 (i5 + 1) g93_1 gs1 (fT m241 (1060 + i5) (m241 22)) _ _ _ (f93_1_0) (by omega) (fun q h1 h2 h3 h4 => by (rw [fT_ne _ _ (by omega), f41_2 _ (by omega), fT_ne _ _ (by omega)]); exact ho q h1 h2 h3 h4) (by omega) hP hD hS hl
      · have t_26 : (((vF 73) i5)).toInt = 0 := toI_nne c_26 rfl (by decide)
        refine lv_goto (tgt := 96) hx hb dX12_multipliers_29 (by decide) ?_
        refine lv_iinc (v := (nI (i5 + 1))) hx hb dX12_multipliers_96 hl (k := 1) rfl (nI_add i5 1) (by decide) rfl (fun ls (hl : lv_has ls _ ([(1, .int (nI (i5 + 1))), (0, .ref h0)])) => ?_)
        refine lv_goto (tgt := 2) hx hb dX12_multipliers_99 (by decide) ?_
        have hl : lv_has _ _ ([(0, .ref h0), (1, .int (nI (i5 + 1)))]) := lv_sub hl [1, 0] rfl
        exact ih2 (i5 + 1) g17 gs1 (fT m1 (1060 + i5) 0) _ _ _ (f17_0) (by omega) (fun q h1 h2 h3 h4 => by (rw [fT_ne _ _ (by omega)]); exact ho q h1 h2 h3 h4) (by omega) hP hD hS hl
theorem dX12_prove_0 : decode cX12_prove 0 = .ok (.aload_n 0, 1) := dk_42 (by decide +kernel)
theorem dX12_prove_1 : decode cX12_prove 1 = .ok (.aload_n 0, 1) := dk_42 (by decide +kernel)
theorem dX12_prove_2 : decode cX12_prove 2 = .ok (.getfield 808, 3) := dk_180 (by decide +kernel)
theorem dX12_prove_5 : decode cX12_prove 5 = .ok (.ifCond .eq 7, 3) := dk_153 (by decide +kernel)
theorem dX12_prove_8 : decode cX12_prove 8 = .ok (.iconst 0, 1) := dk_3 (by decide +kernel)
theorem dX12_prove_9 : decode cX12_prove 9 = .ok (.goto 4, 3) := dk_167 (by decide +kernel)
theorem dX12_prove_12 : decode cX12_prove 12 = .ok (.iconst 1, 1) := dk_4 (by decide +kernel)
theorem dX12_prove_13 : decode cX12_prove 13 = .ok (.putfield 348, 3) := dk_181 (by decide +kernel)
theorem dX12_prove_16 : decode cX12_prove 16 = .ok (.aload_n 0, 1) := dk_42 (by decide +kernel)
theorem dX12_prove_17 : decode cX12_prove 17 = .ok (.getfield 348, 3) := dk_180 (by decide +kernel)
theorem dX12_prove_20 : decode cX12_prove 20 = .ok (.ifCond .le 5, 3) := dk_158 (by decide +kernel)
theorem dX12_prove_23 : decode cX12_prove 23 = .ok (.iconst 0, 1) := dk_3 (by decide +kernel)
theorem dX12_prove_24 : decode cX12_prove 24 = .ok (.ireturn, 1) := dk_172 (by decide +kernel)
theorem dX12_prove_25 : decode cX12_prove 25 = .ok (.aload_n 0, 1) := dk_42 (by decide +kernel)
theorem dX12_prove_26 : decode cX12_prove 26 = .ok (.invokevirtual 915, 3) := dk_182 (by decide +kernel)
theorem dX12_prove_29 : decode cX12_prove 29 = .ok (.aload_n 0, 1) := dk_42 (by decide +kernel)
theorem dX12_prove_30 : decode cX12_prove 30 = .ok (.aload_n 0, 1) := dk_42 (by decide +kernel)
theorem dX12_prove_31 : decode cX12_prove 31 = .ok (.iconst 1, 1) := dk_4 (by decide +kernel)
theorem dX12_prove_32 : decode cX12_prove 32 = .ok (.iconst 1, 1) := dk_4 (by decide +kernel)
theorem dX12_prove_33 : decode cX12_prove 33 = .ok (.invokevirtual 866, 3) := dk_182 (by decide +kernel)
theorem dX12_prove_36 : decode cX12_prove 36 = .ok (.ifCond .ne 7, 3) := dk_154 (by decide +kernel)
theorem dX12_prove_39 : decode cX12_prove 39 = .ok (.iconst 1, 1) := dk_4 (by decide +kernel)
theorem dX12_prove_40 : decode cX12_prove 40 = .ok (.goto 4, 3) := dk_167 (by decide +kernel)
theorem dX12_prove_43 : decode cX12_prove 43 = .ok (.iconst 0, 1) := dk_3 (by decide +kernel)
theorem dX12_prove_44 : decode cX12_prove 44 = .ok (.putfield 903, 3) := dk_181 (by decide +kernel)
theorem dX12_prove_47 : decode cX12_prove 47 = .ok (.aload_n 0, 1) := dk_42 (by decide +kernel)
theorem dX12_prove_48 : decode cX12_prove 48 = .ok (.iconst 0, 1) := dk_3 (by decide +kernel)
theorem dX12_prove_49 : decode cX12_prove 49 = .ok (.putfield 829, 3) := dk_181 (by decide +kernel)
theorem dX12_prove_52 : decode cX12_prove 52 = .ok (.aload_n 0, 1) := dk_42 (by decide +kernel)
theorem dX12_prove_53 : decode cX12_prove 53 = .ok (.getfield 903, 3) := dk_180 (by decide +kernel)
theorem dX12_prove_56 : decode cX12_prove 56 = .ok (.ifCond .ne 10, 3) := dk_154 (by decide +kernel)
theorem dX12_prove_59 : decode cX12_prove 59 = .ok (.aload_n 0, 1) := dk_42 (by decide +kernel)
theorem dX12_prove_60 : decode cX12_prove 60 = .ok (.invokevirtual 918, 3) := dk_182 (by decide +kernel)
theorem dX12_prove_63 : decode cX12_prove 63 = .ok (.goto 7, 3) := dk_167 (by decide +kernel)
theorem dX12_prove_66 : decode cX12_prove 66 = .ok (.aload_n 0, 1) := dk_42 (by decide +kernel)
theorem dX12_prove_67 : decode cX12_prove 67 = .ok (.invokevirtual 921, 3) := dk_182 (by decide +kernel)
theorem dX12_prove_70 : decode cX12_prove 70 = .ok (.aload_n 0, 1) := dk_42 (by decide +kernel)
theorem dX12_prove_71 : decode cX12_prove 71 = .ok (.getfield 894, 3) := dk_180 (by decide +kernel)
theorem dX12_prove_74 : decode cX12_prove 74 = .ok (.iconst 1, 1) := dk_4 (by decide +kernel)
theorem dX12_prove_75 : decode cX12_prove 75 = .ok (.isub, 1) := dk_100 (by decide +kernel)
theorem dX12_prove_76 : decode cX12_prove 76 = .ok (.istore_n 1, 1) := dk_60 (by decide +kernel)
theorem dX12_prove_77 : decode cX12_prove 77 = .ok (.iload_n 1, 1) := dk_27 (by decide +kernel)
theorem dX12_prove_78 : decode cX12_prove 78 = .ok (.ifCond .lt 30, 3) := dk_155 (by decide +kernel)
theorem dX12_prove_81 : decode cX12_prove 81 = .ok (.aload_n 0, 1) := dk_42 (by decide +kernel)
theorem dX12_prove_82 : decode cX12_prove 82 = .ok (.getfield 242, 3) := dk_180 (by decide +kernel)
theorem dX12_prove_85 : decode cX12_prove 85 = .ok (.iload_n 1, 1) := dk_27 (by decide +kernel)
theorem dX12_prove_86 : decode cX12_prove 86 = .ok (.iconst 0, 1) := dk_3 (by decide +kernel)
theorem dX12_prove_87 : decode cX12_prove 87 = .ok (.iastore, 1) := dk_79 (by decide +kernel)
theorem dX12_prove_88 : decode cX12_prove 88 = .ok (.aload_n 0, 1) := dk_42 (by decide +kernel)
theorem dX12_prove_89 : decode cX12_prove 89 = .ok (.invokevirtual 924, 3) := dk_182 (by decide +kernel)
theorem dX12_prove_92 : decode cX12_prove 92 = .ok (.ifCond .ne 10, 3) := dk_154 (by decide +kernel)
theorem dX12_prove_95 : decode cX12_prove 95 = .ok (.aload_n 0, 1) := dk_42 (by decide +kernel)
theorem dX12_prove_96 : decode cX12_prove 96 = .ok (.getfield 242, 3) := dk_180 (by decide +kernel)
theorem dX12_prove_99 : decode cX12_prove 99 = .ok (.iload_n 1, 1) := dk_27 (by decide +kernel)
theorem dX12_prove_100 : decode cX12_prove 100 = .ok (.iconst 1, 1) := dk_4 (by decide +kernel)
theorem dX12_prove_101 : decode cX12_prove 101 = .ok (.iastore, 1) := dk_79 (by decide +kernel)
theorem dX12_prove_102 : decode cX12_prove 102 = .ok (.iinc 1 (-1), 3) := dk_132 (by decide +kernel)
theorem dX12_prove_105 : decode cX12_prove 105 = .ok (.goto (-28), 3) := dk_167 (by decide +kernel)
theorem dX12_prove_108 : decode cX12_prove 108 = .ok (.aload_n 0, 1) := dk_42 (by decide +kernel)
theorem dX12_prove_109 : decode cX12_prove 109 = .ok (.invokevirtual 912, 3) := dk_182 (by decide +kernel)
theorem dX12_prove_112 : decode cX12_prove 112 = .ok (.pop, 1) := dk_87 (by decide +kernel)
theorem dX12_prove_113 : decode cX12_prove 113 = .ok (.aload_n 0, 1) := dk_42 (by decide +kernel)
theorem dX12_prove_114 : decode cX12_prove 114 = .ok (.invokevirtual 927, 3) := dk_182 (by decide +kernel)
theorem dX12_prove_117 : decode cX12_prove 117 = .ok (.aload_n 0, 1) := dk_42 (by decide +kernel)
theorem dX12_prove_118 : decode cX12_prove 118 = .ok (.iconst 1, 1) := dk_4 (by decide +kernel)
theorem dX12_prove_119 : decode cX12_prove 119 = .ok (.putfield 814, 3) := dk_181 (by decide +kernel)
theorem dX12_prove_122 : decode cX12_prove 122 = .ok (.iconst 0, 1) := dk_3 (by decide +kernel)
theorem dX12_prove_123 : decode cX12_prove 123 = .ok (.istore_n 1, 1) := dk_60 (by decide +kernel)
theorem dX12_prove_124 : decode cX12_prove 124 = .ok (.iconst 0, 1) := dk_3 (by decide +kernel)
theorem dX12_prove_125 : decode cX12_prove 125 = .ok (.istore_n 2, 1) := dk_61 (by decide +kernel)
theorem dX12_prove_126 : decode cX12_prove 126 = .ok (.iload_n 2, 1) := dk_28 (by decide +kernel)
theorem dX12_prove_127 : decode cX12_prove 127 = .ok (.aload_n 0, 1) := dk_42 (by decide +kernel)
theorem dX12_prove_128 : decode cX12_prove 128 = .ok (.getfield 894, 3) := dk_180 (by decide +kernel)
theorem dX12_prove_131 : decode cX12_prove 131 = .ok (.if_icmp .ge 18, 3) := dk_162 (by decide +kernel)
theorem dX12_prove_134 : decode cX12_prove 134 = .ok (.iload_n 1, 1) := dk_27 (by decide +kernel)
theorem dX12_prove_135 : decode cX12_prove 135 = .ok (.aload_n 0, 1) := dk_42 (by decide +kernel)
theorem dX12_prove_136 : decode cX12_prove 136 = .ok (.getfield 242, 3) := dk_180 (by decide +kernel)
theorem dX12_prove_139 : decode cX12_prove 139 = .ok (.iload_n 2, 1) := dk_28 (by decide +kernel)
theorem dX12_prove_140 : decode cX12_prove 140 = .ok (.iaload, 1) := dk_46 (by decide +kernel)
theorem dX12_prove_141 : decode cX12_prove 141 = .ok (.iadd, 1) := dk_96 (by decide +kernel)
theorem dX12_prove_142 : decode cX12_prove 142 = .ok (.istore_n 1, 1) := dk_60 (by decide +kernel)
theorem dX12_prove_143 : decode cX12_prove 143 = .ok (.iinc 2 1, 3) := dk_132 (by decide +kernel)
theorem dX12_prove_146 : decode cX12_prove 146 = .ok (.goto (-20), 3) := dk_167 (by decide +kernel)
theorem dX12_prove_149 : decode cX12_prove 149 = .ok (.iload_n 1, 1) := dk_27 (by decide +kernel)
theorem dX12_prove_150 : decode cX12_prove 150 = .ok (.ireturn, 1) := dk_172 (by decide +kernel)
def wsRX12_prove : List Cond := .code yX12_prove cX12_prove 3 (some .int) :: ([.fieldLink RX12 808 "OptimaWorksModel" "isModel" "Z", .fieldLink RX12 348 "OptimaWorksModel" "thrown" "I", .fieldLink RX12 903 "OptimaWorksModel" "isShort" "Z", .fieldLink RX12 829 "OptimaWorksModel" "fixes" "Z", .fieldLink RX12 894 "OptimaWorksModel" "needs" "I", .fieldLink RX12 814 "OptimaWorksModel" "hasProof" "Z", .fieldLink RX12 242 "OptimaWorksModel" "needKept" "[I"] ++ wsX120 ++ (wsV RX12 915 RX12 yX12_listNeeds wsRX12_listNeeds) ++ (wsV RX12 866 RX12 yX12_solves wsRX12_solves) ++ (wsV RX12 921 RX12 yX12_shortBest wsRX12_shortBest) ++ (wsV RX12 918 RX12 yX12_best1 wsRX12_best1) ++ (wsV RX12 912 RX12 yX12_addsUp wsRX12_addsUp) ++ (wsV RX12 927 RX12 yX12_multipliers wsRX12_multipliers) ++ (wsV RX12 924 RX12 yX12_proves wsRX12_proves))
theorem iwsRX12_prove_in12 : ∀ w ∈ wsX120, w ∈ wsRX12_prove := fun _ h => List.mem_cons_of_mem _ (List.mem_append_left _ (List.mem_append_left _ (List.mem_append_left _ (List.mem_append_left _ (List.mem_append_left _ (List.mem_append_left _ (List.mem_append_left _ (List.mem_append_right _ h))))))))
theorem gwsRX12_prove_0 : GoodIn wsRX12_prove (wsV RX12 915 RX12 yX12_listNeeds wsRX12_listNeeds) := goodIn_sub (fun _ h => List.mem_cons_of_mem _ (List.mem_append_left _ (List.mem_append_left _ (List.mem_append_left _ (List.mem_append_left _ (List.mem_append_left _ (List.mem_append_left _ (List.mem_append_right _ h)))))))) (gdV (by decide +kernel) gdwsRX12_listNeeds)
theorem gwsRX12_prove_1 : GoodIn wsRX12_prove (wsV RX12 866 RX12 yX12_solves wsRX12_solves) := goodIn_sub (fun _ h => List.mem_cons_of_mem _ (List.mem_append_left _ (List.mem_append_left _ (List.mem_append_left _ (List.mem_append_left _ (List.mem_append_left _ (List.mem_append_right _ h))))))) (gdV (by decide +kernel) gdwsRX12_solves)
theorem gwsRX12_prove_2 : GoodIn wsRX12_prove (wsV RX12 921 RX12 yX12_shortBest wsRX12_shortBest) := goodIn_sub (fun _ h => List.mem_cons_of_mem _ (List.mem_append_left _ (List.mem_append_left _ (List.mem_append_left _ (List.mem_append_left _ (List.mem_append_right _ h)))))) (gdV (by decide +kernel) gdwsRX12_shortBest)
theorem gwsRX12_prove_3 : GoodIn wsRX12_prove (wsV RX12 918 RX12 yX12_best1 wsRX12_best1) := goodIn_sub (fun _ h => List.mem_cons_of_mem _ (List.mem_append_left _ (List.mem_append_left _ (List.mem_append_left _ (List.mem_append_right _ h))))) (gdV (by decide +kernel) gdwsRX12_best1)
theorem gwsRX12_prove_4 : GoodIn wsRX12_prove (wsV RX12 912 RX12 yX12_addsUp wsRX12_addsUp) := goodIn_sub (fun _ h => List.mem_cons_of_mem _ (List.mem_append_left _ (List.mem_append_left _ (List.mem_append_right _ h)))) (gdV (by decide +kernel) gdwsRX12_addsUp)
theorem gwsRX12_prove_5 : GoodIn wsRX12_prove (wsV RX12 927 RX12 yX12_multipliers wsRX12_multipliers) := goodIn_sub (fun _ h => List.mem_cons_of_mem _ (List.mem_append_left _ (List.mem_append_right _ h))) (gdV (by decide +kernel) gdwsRX12_multipliers)
theorem gwsRX12_prove_6 : GoodIn wsRX12_prove (wsV RX12 924 RX12 yX12_proves wsRX12_proves) := goodIn_sub (fun _ h => List.mem_cons_of_mem _ (List.mem_append_right _ h)) (gdV (by decide +kernel) gdwsRX12_proves)
theorem gdwsRX12_prove : wsRX12_prove.all goodWord = true := gdC rfl (gdA (gdA (gdA (gdA (gdA (gdA (gdA (gdA (by decide +kernel : ([.fieldLink RX12 808 "OptimaWorksModel" "isModel" "Z", .fieldLink RX12 348 "OptimaWorksModel" "thrown" "I", .fieldLink RX12 903 "OptimaWorksModel" "isShort" "Z", .fieldLink RX12 829 "OptimaWorksModel" "fixes" "Z", .fieldLink RX12 894 "OptimaWorksModel" "needs" "I", .fieldLink RX12 814 "OptimaWorksModel" "hasProof" "Z", .fieldLink RX12 242 "OptimaWorksModel" "needKept" "[I"] : List Cond).all goodWord = true) gdwsX120) (gdV (by decide +kernel) gdwsRX12_listNeeds)) (gdV (by decide +kernel) gdwsRX12_solves)) (gdV (by decide +kernel) gdwsRX12_shortBest)) (gdV (by decide +kernel) gdwsRX12_best1)) (gdV (by decide +kernel) gdwsRX12_addsUp)) (gdV (by decide +kernel) gdwsRX12_multipliers)) (gdV (by decide +kernel) gdwsRX12_proves))
theorem hm_r_X12_prove_0 : (.fieldLink RX12 348 "OptimaWorksModel" "thrown" "I" : Cond) ∈ wsRX12_prove := by decide +kernel
theorem hm_r_X12_prove_1 : (.fieldLink RX12 903 "OptimaWorksModel" "isShort" "Z" : Cond) ∈ wsRX12_prove := by decide +kernel
theorem hm_r_X12_prove_2 : (.fieldLink RX12 894 "OptimaWorksModel" "needs" "I" : Cond) ∈ wsRX12_prove := by decide +kernel
theorem hm_r_X12_prove_3 : (.fieldLink RX12 242 "OptimaWorksModel" "needKept" "[I" : Cond) ∈ wsRX12_prove := by decide +kernel
set_option maxHeartbeats 4000000 in
set_option maxRecDepth 100000 in
/-- prove() -/
theorem r_X12_prove (l : Launch) (dC : Nat → ClassId) (dI : Nat → Nat → Nat) (a : Nat → Nat) (k : Nat → ClassId) (h0 : Nat) (vi : Nat → Int32) (vj : Nat → Int64) (vF : Nat → Nat → Int32) (vG : Nat → Nat → Int64) (vn : Nat) (mr : Nat) (gq : Nat) (dn : Nat) (nd0 : Nat) (mg : Nat → Int) (hBg : Bg (vF 0) mg) (hvn : vi 90 = nI vn) (hvn8 : vn ≤ 8) (hmr : vi 91 = nI mr) (hmr12 : mr ≤ 12) (hmg : vi 93 = nI gq) (hgq : gq ≤ 3) (hdn : vi 92 = nI dn) (hdn8 : dn ≤ 8) (hM : MdlB vF gq) (hlh : ∀ k, k < vn → (vF 56 k).toInt ≤ (vF 57 k).toInt) (hwm : WmO (vF 59) mr) (hAn : AnsB mg 1020) (hpv : vi 117 ≠ 0 → 0 < mg 1051 ∧ 0 < mg 1052) (hp1 : vi 117 = 0 ∨ vi 117 = 1) (hnd0 : vi 119 = nI nd0) (hnd28 : nd0 ≤ 28) (sz : Nat) : Met l yX12_prove wsRX12_prove ({ frames := 8, cells := 0, slots := 0, locals := 202 }) (va_Pc [.ref h0] (fun U => U.heap.size = sz ∧ va_P (dC, dI) vwCl (WR a k h0 vi vj vF vG) U.heap ∧ va_K (dC, dI) vwCl (tX12 k) U ∧ va_D (fun _ => True) (WR a k h0 vi vj vF vG))) (va_Qi (fun (r : Int32) (u : (Nat → Int32) × (Nat → Int32) × (Nat → Int32) × (Nat → Int32) × (Nat → Int32) × (Nat → Int32) × (Nat → Int32) × (Nat → Int64) × (Nat → Int64) × (Nat → Int64) × (Int64) × (Int32) × (Int32) × (Int32) × (Int32) × (Nat → Int32) × (Nat → Int32) × (Nat → Int32) × (Int32) × (Int32) × (Int32) × (Int32) × (Nat) × (Nat → Int)) => (Bg (u.1) (u.2.2.2.2.2.2.2.2.2.2.2.2.2.2.2.2.2.2.2.2.2.2.2)) ∧ (AnsB (u.2.2.2.2.2.2.2.2.2.2.2.2.2.2.2.2.2.2.2.2.2.2.2) 1020) ∧ ((u.2.2.2.2.2.2.2.2.2.2.2.2.2.2.2.2.2.2.2.2.1) ≠ 0 → 0 < (u.2.2.2.2.2.2.2.2.2.2.2.2.2.2.2.2.2.2.2.2.2.2.2) 1051 ∧ 0 < (u.2.2.2.2.2.2.2.2.2.2.2.2.2.2.2.2.2.2.2.2.2.2.2) 1052) ∧ (∀ q, 1000 ≤ q → q < 1020 → (u.2.2.2.2.2.2.2.2.2.2.2.2.2.2.2.2.2.2.2.2.2.2.2) q = mg q) ∧ ((u.2.2.2.2.2.2.2.2.2.2.2.2.2.2.2.2.2.2.2.2.2.2.1) ≤ 28) ∧ ((u.2.2.2.2.2.2.2.2.2.2.2.2.2.2.2.2.2.2.2.2.1) = 0 ∨ (u.2.2.2.2.2.2.2.2.2.2.2.2.2.2.2.2.2.2.2.2.1) = 1)) (fun (u : (Nat → Int32) × (Nat → Int32) × (Nat → Int32) × (Nat → Int32) × (Nat → Int32) × (Nat → Int32) × (Nat → Int32) × (Nat → Int64) × (Nat → Int64) × (Nat → Int64) × (Int64) × (Int32) × (Int32) × (Int32) × (Int32) × (Nat → Int32) × (Nat → Int32) × (Nat → Int32) × (Int32) × (Int32) × (Int32) × (Int32) × (Nat) × (Nat → Int)) t => va_P (dC, dI) vwCl (WR a k h0 (fT (fT (fT (fT (fT (fT (fT (fT (fT vi 0 (u.2.2.2.2.2.2.2.2.2.2.2.2.2.2.2.2.2.2.2.2.2.1)) 119 (nI (u.2.2.2.2.2.2.2.2.2.2.2.2.2.2.2.2.2.2.2.2.2.2.1))) 116 (u.2.2.2.2.2.2.2.2.2.2.2.2.2.2.2.2.2.2.1)) 5 (u.2.2.2.2.2.2.2.2.2.2.2.2.1)) 6 (u.2.2.2.2.2.2.2.2.2.2.2.2.2.1)) 7 (u.2.2.2.2.2.2.2.2.2.2.2.2.2.2.1)) 11 (u.2.2.2.2.2.2.2.2.2.2.2.1)) 118 (u.2.2.2.2.2.2.2.2.2.2.2.2.2.2.2.2.2.2.2.1)) 117 (u.2.2.2.2.2.2.2.2.2.2.2.2.2.2.2.2.2.2.2.2.1)) (fT vj 12 (u.2.2.2.2.2.2.2.2.2.2.1)) (fT (fT (fT (fT (fT (fT (fT (fT (fT (fT vF 71 (u.2.2.2.2.2.2.2.2.2.2.2.2.2.2.2.1)) 72 (u.2.2.2.2.2.2.2.2.2.2.2.2.2.2.2.2.1)) 73 (u.2.2.2.2.2.2.2.2.2.2.2.2.2.2.2.2.2.1)) 0 (u.1)) 4 (u.2.2.2.1)) 6 (u.2.2.2.2.2.1)) 5 (u.2.2.2.2.1)) 2 (u.2.1)) 3 (u.2.2.1)) 74 (u.2.2.2.2.2.2.1)) (fT (fT (fT vG 1 (u.2.2.2.2.2.2.2.1)) 7 (u.2.2.2.2.2.2.2.2.1)) 8 (u.2.2.2.2.2.2.2.2.2.1))) t.heap ∧ va_D (va_A (WR a k h0 vi vj vF vG) sz) (WR a k h0 (fT (fT (fT (fT (fT (fT (fT (fT (fT vi 0 (u.2.2.2.2.2.2.2.2.2.2.2.2.2.2.2.2.2.2.2.2.2.1)) 119 (nI (u.2.2.2.2.2.2.2.2.2.2.2.2.2.2.2.2.2.2.2.2.2.2.1))) 116 (u.2.2.2.2.2.2.2.2.2.2.2.2.2.2.2.2.2.2.1)) 5 (u.2.2.2.2.2.2.2.2.2.2.2.2.1)) 6 (u.2.2.2.2.2.2.2.2.2.2.2.2.2.1)) 7 (u.2.2.2.2.2.2.2.2.2.2.2.2.2.2.1)) 11 (u.2.2.2.2.2.2.2.2.2.2.2.1)) 118 (u.2.2.2.2.2.2.2.2.2.2.2.2.2.2.2.2.2.2.2.1)) 117 (u.2.2.2.2.2.2.2.2.2.2.2.2.2.2.2.2.2.2.2.2.1)) (fT vj 12 (u.2.2.2.2.2.2.2.2.2.2.1)) (fT (fT (fT (fT (fT (fT (fT (fT (fT (fT vF 71 (u.2.2.2.2.2.2.2.2.2.2.2.2.2.2.2.1)) 72 (u.2.2.2.2.2.2.2.2.2.2.2.2.2.2.2.2.1)) 73 (u.2.2.2.2.2.2.2.2.2.2.2.2.2.2.2.2.2.1)) 0 (u.1)) 4 (u.2.2.2.1)) 6 (u.2.2.2.2.2.1)) 5 (u.2.2.2.2.1)) 2 (u.2.1)) 3 (u.2.2.1)) 74 (u.2.2.2.2.2.2.1)) (fT (fT (fT vG 1 (u.2.2.2.2.2.2.2.1)) 7 (u.2.2.2.2.2.2.2.2.1)) 8 (u.2.2.2.2.2.2.2.2.2.1)))) (va_A (WR a k h0 vi vj vF vG) sz)) 0 0 (va_A (WR a k h0 vi vj vF vG) sz) := by
  refine Met.ofW (cc := cX12_prove) (maxL := 3) (ret := (some .int)) (by decide) rfl ?_
  intro p e s m args below meth c s₁ B hml hv
  obtain ⟨rfl, hsz, hP, hK, hD0⟩ := hv
  have hx := B.exec
  have hb := B.bytes
  have hr := B.returns
  have hts := atoms_spec (ws := wsRX12_prove) B.pre
  have hown : s.vm.findClass RX12 = some m.cls := findClass_of_methodNamed B.named
  have hlocks := B.notSynchronized
  subst hsz
  have hD := hD0.self (sz := s.heap.size)
  generalize hAe : va_A (WR a k h0 vi vj vF vG) s.heap.size = A at hD ⊢
  have hA : ∀ q : Nat, s.heap.size ≤ q → A q := fun q h => by rw [← hAe]; exact Or.inr h
  have hS : va_S A s.heap s.heap [] := va_S.rf
  have hl := lv_entry ([.ref h0]) (n := 3) (Nat.le_of_ble_eq_true rfl)
  rw [lg_entry_eq]
  generalize (lg_sl ([.ref h0]) ++ List.replicate (3 - (lg_sl ([.ref h0])).length) Slot.unset).toArray = ls at hl ⊢
  have hl : lv_has ls 3 [(0, .ref h0)] := hl
  refine lv_aload_n hx hb dX12_prove_0 rfl (lv_at hl 0 rfl) ?_
  refine lv_aload_n hx hb dX12_prove_1 rfl (lv_at hl 0 rfl) ?_
  refine va_get (D := (dC, dI)) (ci := 12) (v := .int (vi 95)) (C := RX12) (T := TX12) (N := 163) (fs := fM (vS a vi vj)) hx hb hts iwsRX12_prove_in12 hown hK hP 0 rfl rfl 95 (by decide) (hts (.fieldLink RX12 808 "OptimaWorksModel" "isModel" "Z") (by decide +kernel)) (fun _ h9 => h9) rfl dX12_prove_2 ?_
  refine lv_if_eq (tgt := 12) hx hb dX12_prove_5 (by decide) (fun c_5 => ?_) (fun c_5 => ?_)
  · have t_5 : ((vi 95)).toInt = 0 := toI_eq c_5 rfl (by decide)
    refine lv_iconst (v := 1) hx hb dX12_prove_12 (by decide) ?_
    refine va_put (D := (dC, dI)) (ci := 12) (v := .int 1) (ty := .int) (C := RX12) (T := TX12) (N := 163) (fs := fM (vS a vi vj)) hx hb hts iwsRX12_prove_in12 tyX12 tyX12_ok nmX12 hown hK hP hD hS 0 rfl rfl 0 (by decide) (hts _ hm_r_X12_prove_0) (fun _ h9 => h9) rfl (by decide +kernel) rfl rfl (Nat.le_of_ble_eq_true rfl) dX12_prove_13 (fun H locs hP hD hS => ?_)
    have hP : va_P (dC, dI) vwCl (WR a k h0 (fT vi 0 1) vj vF vG) H := fz_w (WR_i 0 _ rfl) hP
    have hD : va_D A (WR a k h0 (fT vi 0 1) vj vF vG) := fz_wD (WR_i 0 _ rfl) hD
    refine lv_aload_n hx hb dX12_prove_16 rfl (lv_at hl 0 rfl) ?_
    refine va_get (D := (dC, dI)) (ci := 12) (v := .int 1) (C := RX12) (T := TX12) (N := 163) (fs := fM (vS a (fT vi 0 1) vj)) hx hb hts iwsRX12_prove_in12 hown hK hP 0 rfl rfl 0 (by decide) (hts _ hm_r_X12_prove_0) (fun _ h9 => h9) rfl dX12_prove_17 ?_
    refine lv_if_le (tgt := 25) hx hb dX12_prove_20 (by decide) (fun c9 => absurd c9 (by decide)) (fun _ => ?_)
    refine lv_iconst (v := 0) hx hb dX12_prove_23 (by decide) ?_
    refine W.widen (k := 0) (n := 0) (by decide +kernel) (by decide +kernel) ?_
    have e9 : fT (fT (fT (fT (fT (fT (fT (fT (fT vi 0 1) 119 (nI nd0)) 116 (vi 116)) 5 (vi 5)) 6 (vi 6)) 7 (vi 7)) 11 (vi 11)) 118 (vi 118)) 117 (vi 117) = fT vi 0 1 := Eq.trans (mv_7 rfl) (Eq.trans (congrArg (fT _ 119) (show nI nd0 = vi 119 from (by first | with_reducible rfl | with_reducible assumption | (symm; with_reducible assumption) | rfl | assumption | (symm; assumption) | (subst_vars; rfl)))) (Eq.trans (id_8 rfl) (Eq.trans (mv_6 rfl) (Eq.trans (id_7 rfl) (Eq.trans (mv_5 rfl) (Eq.trans (id_6 rfl) (Eq.trans (mv_4 rfl) (Eq.trans (id_5 rfl) (Eq.trans (mv_3 rfl) (Eq.trans (id_4 rfl) (Eq.trans (mv_2 rfl) (Eq.trans (id_3 rfl) (Eq.trans (mv_1 rfl) (Eq.trans (id_2 rfl) (id_1 rfl)))))))))))))))
    have hP := wr_Pi e9 hP
    have hD := wr_Di e9 hD
    clear e9
    have e9 : fT vj 12 (vj 12) = vj := fT_id _ _ (rfl)
    have hP := wr_Pj e9 hP
    have hD := wr_Dj e9 hD
    clear e9
    have e9 : fT (fT (fT (fT (fT (fT (fT (fT (fT (fT vF 71 (vF 71)) 72 (vF 72)) 73 (vF 73)) 0 (vF 0)) 4 (vF 4)) 6 (vF 6)) 5 (vF 5)) 2 (vF 2)) 3 (vF 3)) 74 (vF 74) = vF := Eq.trans (mv_9 rfl) (Eq.trans (id_9 rfl) (Eq.trans (mv_8 rfl) (Eq.trans (id_8 rfl) (Eq.trans (mv_7 rfl) (Eq.trans (id_7 rfl) (Eq.trans (mv_6 rfl) (Eq.trans (id_6 rfl) (Eq.trans (mv_5 rfl) (Eq.trans (id_5 rfl) (Eq.trans (mv_4 rfl) (Eq.trans (id_4 rfl) (Eq.trans (mv_3 rfl) (Eq.trans (id_3 rfl) (Eq.trans (mv_2 rfl) (Eq.trans (id_2 rfl) (Eq.trans (mv_1 rfl) (Eq.trans (id_1 rfl) (id_0 rfl))))))))))))))))))
    have hP := wr_PF e9 hP
    have hD := wr_DF e9 hD
    clear e9
    have e9 : fT (fT (fT vG 1 (vG 1)) 7 (vG 7)) 8 (vG 8) = vG := (fT_id _ _ ((fT_ne _ _ (Nat.ne_of_beq_eq_false rfl)).trans (fT_ne _ _ (Nat.ne_of_beq_eq_false rfl)))).trans ((fT_id _ _ (fT_ne _ _ (Nat.ne_of_beq_eq_false rfl))).trans (fT_id _ _ (rfl)))
    have hP := wr_PG e9 hP
    have hD := wr_DG e9 hD
    clear e9
    exact W.iret (v := 0) hx hb hr (fun t9_ ht hW => ⟨⟨0, ((vF 0), (vF 2), (vF 3), (vF 4), (vF 5), (vF 6), (vF 74), (vG 1), (vG 7), (vG 8), (vj 12), (vi 11), (vi 5), (vi 6), (vi 7), (vF 71), (vF 72), (vF 73), (vi 116), (vi 118), (vi 117), 1, nd0, mg), rfl, by (try dsimp only); exact ⟨hBg, hAn, hpv, fun q _ _ => rfl, hnd28, hp1⟩, by rw [ht]; exact hP, hD⟩, hS.F ht⟩) hS.2.2 dX12_prove_24
  · have t_5 : ¬ ((vi 95)).toInt = 0 := toI_neq c_5 rfl (by decide)
    refine lv_iconst (v := 0) hx hb dX12_prove_8 (by decide) ?_
    refine lv_goto (tgt := 13) hx hb dX12_prove_9 (by decide) ?_
    refine va_put (D := (dC, dI)) (ci := 12) (v := .int 0) (ty := .int) (C := RX12) (T := TX12) (N := 163) (fs := fM (vS a vi vj)) hx hb hts iwsRX12_prove_in12 tyX12 tyX12_ok nmX12 hown hK hP hD hS 0 rfl rfl 0 (by decide) (hts _ hm_r_X12_prove_0) (fun _ h9 => h9) rfl (by decide +kernel) rfl rfl (Nat.le_of_ble_eq_true rfl) dX12_prove_13 (fun H locs hP hD hS => ?_)
    have hP : va_P (dC, dI) vwCl (WR a k h0 (fT vi 0 0) vj vF vG) H := fz_w (WR_i 0 _ rfl) hP
    have hD : va_D A (WR a k h0 (fT vi 0 0) vj vF vG) := fz_wD (WR_i 0 _ rfl) hD
    refine lv_aload_n hx hb dX12_prove_16 rfl (lv_at hl 0 rfl) ?_
    refine va_get (D := (dC, dI)) (ci := 12) (v := .int 0) (C := RX12) (T := TX12) (N := 163) (fs := fM (vS a (fT vi 0 0) vj)) hx hb hts iwsRX12_prove_in12 hown hK hP 0 rfl rfl 0 (by decide) (hts _ hm_r_X12_prove_0) (fun _ h9 => h9) rfl dX12_prove_17 ?_
    refine lv_if_le (tgt := 25) hx hb dX12_prove_20 (by decide) (fun _ => ?_) (fun c9 => absurd (by decide) c9)
    refine lv_aload_n hx hb dX12_prove_25 rfl (lv_at hl 0 rfl) ?_
    have hFc := allFree hD hS hA
    refine va_callv (va_runV (As := []) (rest := []) ⟨hx, hb, hml, hown, hts⟩ (r_X12_listNeeds l dC dI a k h0 (fT vi 0 0) vj vF vG vn mr (by first | with_reducible assumption | decide | omega | rfl | assumption) (by first | with_reducible assumption | decide | omega | rfl | assumption) (by first | with_reducible assumption | decide | omega | rfl | assumption) (by first | with_reducible assumption | decide | omega | rfl | assumption) H.size) (cwV 0 hts gwsRX12_prove_0 rfl rfl rfl hd_yX12_listNeeds_RX12 (by decide +kernel)) (fz_pre (va_recv hK hP (ci := 12) (q0 := 0) rfl rfl) hP hK hD) rfl rfl hl.1 rfl (lv_room (Nat.le_of_ble_eq_true rfl)) dX12_prove_26 (by decide +kernel)) hS (fun q _ h => hFc q h) hFc (fun u t9_ H locs ht hvm hw9 hB9 hz1 hk1 hS => ?_)
    revert u hw9 hB9
    refine fz_p5 ?_
    intro f7126 f7226 f7326 z26 nd26 hw9 hB9
    try dsimp only at hw9 hB9
    have hP : va_P (dC, dI) vwCl (WR a k h0 (fT (fT vi 0 0) 119 (nI nd26)) vj (fT (fT (fT vF 71 f7126) 72 f7226) 73 f7326) vG) H := fz_P ht hB9.1
    have hD := fz_sd hP (hB9.2.weaken (fun _ q _ h => hFc q.1 h)) rfl
    have f26_0 := hw9
    try dsimp only at f26_0
    refine lv_aload_n hx hb dX12_prove_29 rfl (lv_at hl 0 rfl) ?_
    refine lv_aload_n hx hb dX12_prove_30 rfl (lv_at hl 0 rfl) ?_
    refine lv_iconst (v := 1) hx hb dX12_prove_31 (by decide) ?_
    refine lv_iconst (v := 1) hx hb dX12_prove_32 (by decide) ?_
    have hFc := allFree hD hS hA
    refine va_calli (va_runV (As := [.int 1, .int 1]) (rest := [.ref h0]) ⟨hx, hb, hml, hown, hts⟩ (r_X12_solves l dC dI a k h0 (fT (fT vi 0 0) 119 (nI nd26)) vj (fT (fT (fT vF 71 f7126) 72 f7226) 73 f7326) vG 1 1 vn mr gq mg hBg (by first | with_reducible assumption | decide | omega | rfl | assumption) (by first | with_reducible assumption | decide | omega | rfl | assumption) (by first | with_reducible assumption | decide | omega | rfl | assumption) (by first | with_reducible assumption | decide | omega | rfl | assumption) (by first | with_reducible assumption | decide | omega | rfl | assumption) (by first | with_reducible assumption | decide | omega | rfl | assumption) (by first | with_reducible assumption | decide | omega | rfl | assumption) (fun h9 => absurd h9 (by decide)) (by first | with_reducible assumption | decide | omega | rfl | assumption) H.size) (cwV 2 hts gwsRX12_prove_1 rfl rfl rfl hd_yX12_solves_RX12 (by decide +kernel)) (fz_pre (va_recv hK hP (ci := 12) (q0 := 0) rfl rfl) hP hK hD) rfl rfl hl.1 rfl (lv_room (Nat.le_of_ble_eq_true rfl)) dX12_prove_33 (by decide +kernel)) hS (fun q _ h => hFc q h) hFc (fun r33 u t9_ H locs ht hvm hw9 hB9 hz1 hk1 hS => ?_)
    revert u hw9 hB9
    refine fz_p15 ?_
    intro g33 f2w33 f3w33 f433 f533 f633 gs33 F33 L833 qd33 fx33 cn233 rn233 gn233 m233 hw9 hB9
    try dsimp only at hw9 hB9
    have hP : va_P (dC, dI) vwCl (WR a k h0 (fT (fT (fT (fT (fT (fT (fT vi 0 0) 119 (nI nd26)) 116 fx33) 5 cn233) 6 rn233) 7 gn233) 11 0) (fT vj 12 qd33) (fT (fT (fT (fT (fT (fT (fT (fT (fT vF 71 f7126) 72 f7226) 73 f7326) 0 g33) 4 f433) 6 f633) 5 f533) 2 f2w33) 3 f3w33) (fT (fT (fT vG 1 gs33) 7 F33) 8 L833)) H := fz_P ht hB9.1
    have hD := fz_sd hP (hB9.2.weaken (fun _ q _ h => hFc q.1 h)) rfl
    revert hw9
    refine fz_a5 ?_
    intro f33_0 f33_1 f33_2 f33_3 f33_4
    refine W.cut (pc := 47) (fun H locs ls stk => ∃ (sh : Int32), ((sh = 0 ∧ 0 < m233 1028 ∧ ∀ g, g < gq → 0 < m233 (1033 + g)) ∨ sh = 1) ∧  stk = [] ∧ va_P (dC, dI) vwCl (WR a k h0 (fT (fT (fT (fT (fT (fT (fT (fT vi 0 0) 119 (nI nd26)) 116 fx33) 5 cn233) 6 rn233) 7 gn233) 11 0) 118 sh) (fT vj 12 qd33) (fT (fT (fT (fT (fT (fT (fT (fT (fT vF 71 f7126) 72 f7226) 73 f7326) 0 g33) 4 f433) 6 f633) 5 f533) 2 f2w33) 3 f3w33) (fT (fT (fT vG 1 gs33) 7 F33) 8 L833)) H ∧ va_D A (WR a k h0 (fT (fT (fT (fT (fT (fT (fT (fT vi 0 0) 119 (nI nd26)) 116 fx33) 5 cn233) 6 rn233) 7 gn233) 11 0) 118 sh) (fT vj 12 qd33) (fT (fT (fT (fT (fT (fT (fT (fT (fT vF 71 f7126) 72 f7226) 73 f7326) 0 g33) 4 f433) 6 f633) 5 f533) 2 f2w33) 3 f3w33) (fT (fT (fT vG 1 gs33) 7 F33) 8 L833)) ∧ va_S A s.heap H locs ∧ lv_has ls 3 [(0, .ref h0)]) (fun join1 => ?_) ?_
    · refine lv_if_ne (tgt := 43) hx hb dX12_prove_36 (by decide) (fun c_36 => ?_) (fun c_36 => ?_)
      · have t_36 : (r33).toInt ≠ 0 := toI_ne c_36 rfl (by decide)
        refine lv_iconst (v := 0) hx hb dX12_prove_43 (by decide) ?_
        refine va_put (D := (dC, dI)) (ci := 12) (v := .int 0) (ty := .boolean) (C := RX12) (T := TX12) (N := 163) (fs := fM (vS a (fT (fT (fT (fT (fT (fT (fT vi 0 0) 119 (nI nd26)) 116 fx33) 5 cn233) 6 rn233) 7 gn233) 11 0) (fT vj 12 qd33))) hx hb hts iwsRX12_prove_in12 tyX12 tyX12_ok nmX12 hown hK hP hD hS 0 rfl rfl 118 (by decide) (hts _ hm_r_X12_prove_1) (fun _ h9 => h9) rfl (by decide +kernel) rfl rfl (Nat.le_of_ble_eq_true rfl) dX12_prove_44 (fun H locs hP hD hS => ?_)
        have hP : va_P (dC, dI) vwCl (WR a k h0 (fT (fT (fT (fT (fT (fT (fT (fT vi 0 0) 119 (nI nd26)) 116 fx33) 5 cn233) 6 rn233) 7 gn233) 11 0) 118 0) (fT vj 12 qd33) (fT (fT (fT (fT (fT (fT (fT (fT (fT vF 71 f7126) 72 f7226) 73 f7326) 0 g33) 4 f433) 6 f633) 5 f533) 2 f2w33) 3 f3w33) (fT (fT (fT vG 1 gs33) 7 F33) 8 L833)) H := fz_w (WR_i 118 _ rfl) hP
        have hD : va_D A (WR a k h0 (fT (fT (fT (fT (fT (fT (fT (fT vi 0 0) 119 (nI nd26)) 116 fx33) 5 cn233) 6 rn233) 7 gn233) 11 0) 118 0) (fT vj 12 qd33) (fT (fT (fT (fT (fT (fT (fT (fT (fT vF 71 f7126) 72 f7226) 73 f7326) 0 g33) 4 f433) 6 f633) 5 f533) 2 f2w33) 3 f3w33) (fT (fT (fT vG 1 gs33) 7 F33) 8 L833)) := fz_wD (WR_i 118 _ rfl) hD
        have hl : lv_has _ _ ([(0, .ref h0)]) := lv_sub hl [0] rfl
        exact join1 _ _ _ _ ⟨0, Or.inl ⟨rfl, (f33_4.resolve_left c_36).resolve_left (by decide)⟩, rfl, hP, hD, hS, hl⟩
      · have t_36 : (r33).toInt = 0 := toI_nne c_36 rfl (by decide)
        refine lv_iconst (v := 1) hx hb dX12_prove_39 (by decide) ?_
        refine lv_goto (tgt := 44) hx hb dX12_prove_40 (by decide) ?_
        refine va_put (D := (dC, dI)) (ci := 12) (v := .int 1) (ty := .boolean) (C := RX12) (T := TX12) (N := 163) (fs := fM (vS a (fT (fT (fT (fT (fT (fT (fT vi 0 0) 119 (nI nd26)) 116 fx33) 5 cn233) 6 rn233) 7 gn233) 11 0) (fT vj 12 qd33))) hx hb hts iwsRX12_prove_in12 tyX12 tyX12_ok nmX12 hown hK hP hD hS 0 rfl rfl 118 (by decide) (hts _ hm_r_X12_prove_1) (fun _ h9 => h9) rfl (by decide +kernel) rfl rfl (Nat.le_of_ble_eq_true rfl) dX12_prove_44 (fun H locs hP hD hS => ?_)
        have hP : va_P (dC, dI) vwCl (WR a k h0 (fT (fT (fT (fT (fT (fT (fT (fT vi 0 0) 119 (nI nd26)) 116 fx33) 5 cn233) 6 rn233) 7 gn233) 11 0) 118 1) (fT vj 12 qd33) (fT (fT (fT (fT (fT (fT (fT (fT (fT vF 71 f7126) 72 f7226) 73 f7326) 0 g33) 4 f433) 6 f633) 5 f533) 2 f2w33) 3 f3w33) (fT (fT (fT vG 1 gs33) 7 F33) 8 L833)) H := fz_w (WR_i 118 _ rfl) hP
        have hD : va_D A (WR a k h0 (fT (fT (fT (fT (fT (fT (fT (fT vi 0 0) 119 (nI nd26)) 116 fx33) 5 cn233) 6 rn233) 7 gn233) 11 0) 118 1) (fT vj 12 qd33) (fT (fT (fT (fT (fT (fT (fT (fT (fT vF 71 f7126) 72 f7226) 73 f7326) 0 g33) 4 f433) 6 f633) 5 f533) 2 f2w33) 3 f3w33) (fT (fT (fT vG 1 gs33) 7 F33) 8 L833)) := fz_wD (WR_i 118 _ rfl) hD
        have hl : lv_has _ _ ([(0, .ref h0)]) := lv_sub hl [0] rfl
        exact join1 _ _ _ _ ⟨1, Or.inr rfl, rfl, hP, hD, hS, hl⟩
    · rintro H locs ls stk ⟨sh, hsh, rfl, hP, hD, hS, hl⟩
      refine lv_aload_n hx hb dX12_prove_47 rfl (lv_at hl 0 rfl) ?_
      refine lv_iconst (v := 0) hx hb dX12_prove_48 (by decide) ?_
      refine va_put (D := (dC, dI)) (ci := 12) (v := .int 0) (ty := .boolean) (C := RX12) (T := TX12) (N := 163) (fs := fM (vS a (fT (fT (fT (fT (fT (fT (fT (fT vi 0 0) 119 (nI nd26)) 116 fx33) 5 cn233) 6 rn233) 7 gn233) 11 0) 118 sh) (fT vj 12 qd33))) hx hb hts iwsRX12_prove_in12 tyX12 tyX12_ok nmX12 hown hK hP hD hS 0 rfl rfl 116 (by decide) (hts (.fieldLink RX12 829 "OptimaWorksModel" "fixes" "Z") (by decide +kernel)) (fun _ h9 => h9) rfl (by decide +kernel) rfl rfl (Nat.le_of_ble_eq_true rfl) dX12_prove_49 (fun H locs hP hD hS => ?_)
      have e9 : fT (fT (fT (fT (fT (fT (fT (fT vi 0 0) 119 (nI nd26)) 116 0) 5 cn233) 6 rn233) 7 gn233) 11 0) 118 sh = fT (fT (fT (fT (fT (fT (fT (fT (fT vi 0 0) 119 (nI nd26)) 116 fx33) 5 cn233) 6 rn233) 7 gn233) 11 0) 118 sh) 116 0 := ((fT_sw _ _ _ (Nat.ne_of_beq_eq_false rfl)).trans (congrArg (fun g9 => fT g9 118 sh) ((fT_sw _ _ _ (Nat.ne_of_beq_eq_false rfl)).trans (congrArg (fun g9 => fT g9 11 0) ((fT_sw _ _ _ (Nat.ne_of_beq_eq_false rfl)).trans (congrArg (fun g9 => fT g9 7 gn233) ((fT_sw _ _ _ (Nat.ne_of_beq_eq_false rfl)).trans (congrArg (fun g9 => fT g9 6 rn233) ((fT_sw _ _ _ (Nat.ne_of_beq_eq_false rfl)).trans (congrArg (fun g9 => fT g9 5 cn233) (fT_sm _ _ _ _))))))))))).symm
      have hP := wr_Pi e9 (fz_w (WR_i 116 _ rfl) hP)
      have hD := wr_Di e9 (fz_wD (WR_i 116 _ rfl) hD)
      clear e9
      refine lv_aload_n hx hb dX12_prove_52 rfl (lv_at hl 0 rfl) ?_
      refine va_get (D := (dC, dI)) (ci := 12) (v := .int sh) (C := RX12) (T := TX12) (N := 163) (fs := fM (vS a (fT (fT (fT (fT (fT (fT (fT (fT vi 0 0) 119 (nI nd26)) 116 0) 5 cn233) 6 rn233) 7 gn233) 11 0) 118 sh) (fT vj 12 qd33))) hx hb hts iwsRX12_prove_in12 hown hK hP 0 rfl rfl 118 (by decide) (hts _ hm_r_X12_prove_1) (fun _ h9 => h9) rfl dX12_prove_53 ?_
      refine W.cut (pc := 70) (fun H locs ls stk => ∃ (gp : Nat → Int32) (f2wp : Nat → Int32) (f3wp : Nat → Int32) (f4p : Nat → Int32) (f5p : Nat → Int32) (f6p : Nat → Int32) (f74p : Nat → Int32) (gsp : Nat → Int64) (Fp : Nat → Int64) (L8p : Nat → Int64) (qdp : Int64) (qkp : Int32) (cn2p : Int32) (rn2p : Int32) (gn2p : Int32) (mP : Nat → Int), (Bg gp mP) ∧ ((sh ≠ 0 ∧ Sz 294 (mP 1046) ∧ Sz 258 (mP 1047)) ∨ (Sz 224 (mP 1046) ∧ Sz 201 (mP 1047))) ∧ (0 < mP 1051) ∧ (∀ q, 1000 ≤ q → q < 1045 → mP q = m233 q) ∧  stk = [] ∧ va_P (dC, dI) vwCl (WR a k h0 (fT (fT (fT (fT (fT (fT (fT (fT vi 0 0) 119 (nI nd26)) 116 0) 5 cn2p) 6 rn2p) 7 gn2p) 11 qkp) 118 sh) (fT vj 12 qdp) (fT (fT (fT (fT (fT (fT (fT (fT (fT (fT vF 71 f7126) 72 f7226) 73 f7326) 0 gp) 4 f4p) 6 f6p) 5 f5p) 2 f2wp) 3 f3wp) 74 f74p) (fT (fT (fT vG 1 gsp) 7 Fp) 8 L8p)) H ∧ va_D A (WR a k h0 (fT (fT (fT (fT (fT (fT (fT (fT vi 0 0) 119 (nI nd26)) 116 0) 5 cn2p) 6 rn2p) 7 gn2p) 11 qkp) 118 sh) (fT vj 12 qdp) (fT (fT (fT (fT (fT (fT (fT (fT (fT (fT vF 71 f7126) 72 f7226) 73 f7326) 0 gp) 4 f4p) 6 f6p) 5 f5p) 2 f2wp) 3 f3wp) 74 f74p) (fT (fT (fT vG 1 gsp) 7 Fp) 8 L8p)) ∧ va_S A s.heap H locs ∧ lv_has ls 3 [(0, .ref h0)]) (fun join2 => ?_) ?_
      · refine lv_if_ne (tgt := 66) hx hb dX12_prove_56 (by decide) (fun c_56 => ?_) (fun c_56 => ?_)
        · have t_56 : (sh).toInt ≠ 0 := toI_ne c_56 rfl (by decide)
          refine lv_aload_n hx hb dX12_prove_66 rfl (lv_at hl 0 rfl) ?_
          have hFc := allFree hD hS hA
          refine va_callv (va_runV (As := []) (rest := []) ⟨hx, hb, hml, hown, hts⟩ (r_X12_shortBest l dC dI a k h0 (fT (fT (fT (fT (fT (fT (fT (fT vi 0 0) 119 (nI nd26)) 116 0) 5 cn233) 6 rn233) 7 gn233) 11 0) 118 sh) (fT vj 12 qd33) (fT (fT (fT (fT (fT (fT (fT (fT (fT vF 71 f7126) 72 f7226) 73 f7326) 0 g33) 4 f433) 6 f633) 5 f533) 2 f2w33) 3 f3w33) (fT (fT (fT vG 1 gs33) 7 F33) 8 L833) vn mr gq z26 nd26 m233 f33_0 (by first | with_reducible assumption | decide | omega | rfl | assumption) (by first | with_reducible assumption | decide | omega | rfl | assumption) (by first | with_reducible assumption | decide | omega | rfl | assumption) (by first | with_reducible assumption | decide | omega | rfl | assumption) (by first | with_reducible assumption | decide | omega | rfl | assumption) (by first | with_reducible assumption | decide | omega | rfl | assumption) (rfl) (f26_0) (c_56) H.size) (cwV 0 hts gwsRX12_prove_2 rfl rfl rfl hd_yX12_shortBest_RX12 (by decide +kernel)) (fz_pre (va_recv hK hP (ci := 12) (q0 := 0) rfl rfl) hP hK hD) rfl rfl hl.1 rfl (lv_room (Nat.le_of_ble_eq_true rfl)) dX12_prove_67 (by decide +kernel)) hS (fun q _ h => hFc q h) hFc (fun u t9_ H locs ht hvm hw9 hB9 hz1 hk1 hS => ?_)
          revert u hw9 hB9
          refine fz_p15 ?_
          intro g67 f2w67 f3w67 f467 f567 f667 f7467 gs67 F67 L867 qd67 m267 cn267 rn267 gn267 hw9 hB9
          try dsimp only at hw9 hB9
          have e9i : fT (fT (fT (fT (fT (fT (fT (fT vi 0 0) 119 (nI nd26)) 116 0) 5 cn267) 6 rn267) 7 gn267) 11 0) 118 sh = fT (fT (fT (fT (fT (fT (fT (fT (fT (fT (fT (fT vi 0 0) 119 (nI nd26)) 116 0) 5 cn233) 6 rn233) 7 gn233) 11 0) 118 sh) 5 cn267) 6 rn267) 7 gn267) 11 0 := Eq.symm (Eq.trans (congrArg (fun g9 => fT g9 11 0) (Eq.trans (congrArg (fun g9 => fT g9 7 gn267) (Eq.trans (congrArg (fun g9 => fT g9 6 rn267) (up_4 rfl)) (up_3 rfl))) (up_2 rfl))) (up_1 rfl))
          have e9j : fT vj 12 qd67 = fT (fT vj 12 qd33) 12 qd67 := (fT_sm _ _ _ _).symm
          have e9F : fT (fT (fT (fT (fT (fT (fT (fT (fT (fT vF 71 f7126) 72 f7226) 73 f7326) 0 g67) 4 f467) 6 f667) 5 f567) 2 f2w67) 3 f3w67) 74 f7467 = fT (fT (fT (fT (fT (fT (fT (fT (fT (fT (fT (fT (fT (fT (fT (fT vF 71 f7126) 72 f7226) 73 f7326) 0 g33) 4 f433) 6 f633) 5 f533) 2 f2w33) 3 f3w33) 74 f7467) 0 g67) 4 f467) 6 f667) 2 f2w67) 3 f3w67) 5 f567 := Eq.symm (Eq.trans (congrArg (fun g9 => fT g9 5 f567) (Eq.trans (congrArg (fun g9 => fT g9 3 f3w67) (Eq.trans (congrArg (fun g9 => fT g9 2 f2w67) (Eq.trans (congrArg (fun g9 => fT g9 6 f667) (Eq.trans (congrArg (fun g9 => fT g9 4 f467) (up_6 rfl)) (up_5 rfl))) (up_4 rfl))) (up_2 rfl))) (up_1 rfl))) (up_3 rfl))
          have e9G : fT (fT (fT vG 1 gs67) 7 F67) 8 L867 = fT (fT (fT (fT (fT (fT vG 1 gs33) 7 F33) 8 L833) 1 gs67) 7 F67) 8 L867 := ((congrArg (fun g9 => fT (fT g9 7 F67) 8 L867) ((fT_sw _ _ _ (Nat.ne_of_beq_eq_false rfl)).trans (congrArg (fun g9 => fT g9 8 L833) ((fT_sw _ _ _ (Nat.ne_of_beq_eq_false rfl)).trans (congrArg (fun g9 => fT g9 7 F33) (fT_sm _ _ _ _)))))).trans ((congrArg (fun g9 => fT g9 8 L867) ((fT_sw _ _ _ (Nat.ne_of_beq_eq_false rfl)).trans (congrArg (fun g9 => fT g9 8 L833) (fT_sm _ _ _ _)))).trans (fT_sm _ _ _ _))).symm
          have hP := wr_PG e9G (wr_PF e9F (wr_Pj e9j (wr_Pi e9i (fz_P ht hB9.1))))
          have hD := wr_DG e9G (wr_DF e9F (wr_Dj e9j (wr_Di e9i (hB9.2.weaken (fun _ q _ h => hFc q.1 h)))))
          clear e9i e9j e9F e9G
          revert hw9
          refine fz_a4 ?_
          intro f67_0 f67_1 f67_2 f67_3
          have hl : lv_has _ _ ([(0, .ref h0)]) := lv_sub hl [0] rfl
          exact join2 _ _ _ _ ⟨g67, f2w67, f3w67, f467, f567, f667, f7467, gs67, F67, L867, qd67, 0, cn267, rn267, gn267, m267, f67_0, Or.inl ⟨c_56, f67_1⟩, f67_2, fun q h1 h2 => f67_3 q h1 (by omega) (by omega) (by omega) (by omega) (by omega), rfl, hP, hD, hS, hl⟩
        · have t_56 : (sh).toInt = 0 := toI_nne c_56 rfl (by decide)
          refine lv_aload_n hx hb dX12_prove_59 rfl (lv_at hl 0 rfl) ?_
          have hFc := allFree hD hS hA
          refine va_callv (va_runV (As := []) (rest := []) ⟨hx, hb, hml, hown, hts⟩ (r_X12_best1 l dC dI a k h0 (fT (fT (fT (fT (fT (fT (fT (fT vi 0 0) 119 (nI nd26)) 116 0) 5 cn233) 6 rn233) 7 gn233) 11 0) 118 sh) (fT vj 12 qd33) (fT (fT (fT (fT (fT (fT (fT (fT (fT vF 71 f7126) 72 f7226) 73 f7326) 0 g33) 4 f433) 6 f633) 5 f533) 2 f2w33) 3 f3w33) (fT (fT (fT vG 1 gs33) 7 F33) 8 L833) vn gq m233 f33_0 (by first | with_reducible assumption | decide | omega | rfl | assumption) (by first | with_reducible assumption | decide | omega | rfl | assumption) (by first | with_reducible assumption | decide | omega | rfl | assumption) (⟨(f33_1.2 0 (by omega)).1, (f33_1.2 0 (by omega)).2, fun h9 => (hsh.resolve_right (fun h => by rw [h] at c_56; exact absurd c_56 (by decide))).2.2 0 h9⟩) H.size) (cwV 0 hts gwsRX12_prove_3 rfl rfl rfl hd_yX12_best1_RX12 (by decide +kernel)) (fz_pre (va_recv hK hP (ci := 12) (q0 := 0) rfl rfl) hP hK hD) rfl rfl hl.1 rfl (lv_room (Nat.le_of_ble_eq_true rfl)) dX12_prove_60 (by decide +kernel)) hS (fun q _ h => hFc q h) hFc (fun u t9_ H locs ht hvm hw9 hB9 hz1 hk1 hS => ?_)
          revert u hw9 hB9
          refine fz_p5 ?_
          intro g60 f2w60 f3w60 gs60 m260 hw9 hB9
          try dsimp only at hw9 hB9
          have e9F : fT (fT (fT (fT (fT (fT (fT (fT (fT vF 71 f7126) 72 f7226) 73 f7326) 0 g60) 4 f433) 6 f633) 5 f533) 2 f2w60) 3 f3w60 = fT (fT (fT (fT (fT (fT (fT (fT (fT (fT (fT (fT vF 71 f7126) 72 f7226) 73 f7326) 0 g33) 4 f433) 6 f633) 5 f533) 2 f2w33) 3 f3w33) 0 g60) 2 f2w60) 3 f3w60 := Eq.symm (Eq.trans (congrArg (fun g9 => fT g9 3 f3w60) (Eq.trans (congrArg (fun g9 => fT g9 2 f2w60) (up_5 rfl)) (up_1 rfl))) (up_0 rfl))
          have e9G : fT (fT (fT vG 1 gs60) 7 F33) 8 L833 = fT (fT (fT (fT vG 1 gs33) 7 F33) 8 L833) 1 gs60 := ((fT_sw _ _ _ (Nat.ne_of_beq_eq_false rfl)).trans (congrArg (fun g9 => fT g9 8 L833) ((fT_sw _ _ _ (Nat.ne_of_beq_eq_false rfl)).trans (congrArg (fun g9 => fT g9 7 F33) (fT_sm _ _ _ _))))).symm
          have hP := wr_PG e9G (wr_PF e9F (fz_P ht hB9.1))
          have hD := wr_DG e9G (wr_DF e9F (hB9.2.weaken (fun _ q _ h => hFc q.1 h)))
          clear e9F e9G
          revert hw9
          refine fz_a4 ?_
          intro f60_0 f60_1 f60_2 f60_3
          refine lv_goto (tgt := 70) hx hb dX12_prove_63 (by decide) ?_
          have e9 : fT (fT (fT (fT (fT (fT (fT (fT (fT (fT vF 71 f7126) 72 f7226) 73 f7326) 0 g60) 4 f433) 6 f633) 5 f533) 2 f2w60) 3 f3w60) 74 (vF 74) = fT (fT (fT (fT (fT (fT (fT (fT (fT vF 71 f7126) 72 f7226) 73 f7326) 0 g60) 4 f433) 6 f633) 5 f533) 2 f2w60) 3 f3w60 := id_9 rfl
          have hP := wr_PF e9 hP
          have hD := wr_DF e9 hD
          clear e9
          have hl : lv_has _ _ ([(0, .ref h0)]) := lv_sub hl [0] rfl
          exact join2 _ _ _ _ ⟨g60, f2w60, f3w60, f433, f533, f633, (vF 74), gs60, F33, L833, qd33, 0, cn233, rn233, gn233, m260, f60_0, Or.inr f60_1, f60_2, fun q h1 h2 => f60_3 q h1 (by omega) (by omega) (by omega) (by omega), rfl, hP, hD, hS, hl⟩
      · rintro H locs ls stk ⟨gp, f2wp, f3wp, f4p, f5p, f6p, f74p, gsp, Fp, L8p, qdp, qkp, cn2p, rn2p, gn2p, mP, hBP, hPP, h51P, hoP, rfl, hP, hD, hS, hl⟩
        have hz28 : nd26 ≤ 28 := by have h1 := f26_0.1; have h2 := f26_0.2.2.1; omega
        refine lv_aload_n hx hb dX12_prove_70 rfl (lv_at hl 0 rfl) ?_
        refine va_get (D := (dC, dI)) (ci := 12) (v := .int (nI nd26)) (C := RX12) (T := TX12) (N := 163) (fs := fM (vS a (fT (fT (fT (fT (fT (fT (fT (fT vi 0 0) 119 (nI nd26)) 116 0) 5 cn2p) 6 rn2p) 7 gn2p) 11 qkp) 118 sh) (fT vj 12 qdp))) hx hb hts iwsRX12_prove_in12 hown hK hP 0 rfl rfl 119 (by decide) (hts _ hm_r_X12_prove_2) (fun _ h9 => h9) rfl dX12_prove_71 ?_
        refine lv_iconst (v := 1) hx hb dX12_prove_74 (by decide) ?_
        refine lv_isub hx hb dX12_prove_75 ?_
        refine lv_istore_n hx hb dX12_prove_76 rfl hl (by decide) rfl (fun ls (hl : lv_has ls _ ([(1, .int ((nI nd26) - 1)), (0, .ref h0)])) => ?_)
        have hl : lv_has _ _ ([(0, .ref h0), (1, .int ((nI nd26) - 1))]) := lv_sub hl [1, 0] rfl
        refine (fun (loop : ∀ (n9 : Nat) (kq : Int32) (kk1 : Nat) (f73x : Nat → Int32) (gx : Nat → Int32) (f2wx : Nat → Int32) (f3wx : Nat → Int32) (f4x : Nat → Int32) (f5x : Nat → Int32) (f6x : Nat → Int32) (f74x : Nat → Int32) (gsx : Nat → Int64) (Fx : Nat → Int64) (L8x : Nat → Int64) (qdx : Int64) (qkx : Int32) (cn2x : Int32) (rn2x : Int32) (gn2x : Int32) (m5 : Nat → Int) (H : Heap) (locs : List Loc) (ls : Array Slot), (Bg gx m5) → ((kq).toInt = (kk1 : Int) - 1) → (kk1 ≤ nd26) → ((sh ≠ 0 ∧ Sz 294 (m5 1046) ∧ Sz 258 (m5 1047)) ∨ (Sz 224 (m5 1046) ∧ Sz 201 (m5 1047))) → (0 < m5 1051) → (∀ q, 1000 ≤ q → q < 1045 → m5 q = m233 q) →  (kk1 < n9) → va_P (dC, dI) vwCl (WR a k h0 (fT (fT (fT (fT (fT (fT (fT (fT vi 0 0) 119 (nI nd26)) 116 0) 5 cn2x) 6 rn2x) 7 gn2x) 11 qkx) 118 sh) (fT vj 12 qdx) (fT (fT (fT (fT (fT (fT (fT (fT (fT (fT vF 71 f7126) 72 f7226) 73 f73x) 0 gx) 4 f4x) 6 f6x) 5 f5x) 2 f2wx) 3 f3wx) 74 f74x) (fT (fT (fT vG 1 gsx) 7 Fx) 8 L8x)) H → va_D A (WR a k h0 (fT (fT (fT (fT (fT (fT (fT (fT vi 0 0) 119 (nI nd26)) 116 0) 5 cn2x) 6 rn2x) 7 gn2x) 11 qkx) 118 sh) (fT vj 12 qdx) (fT (fT (fT (fT (fT (fT (fT (fT (fT (fT vF 71 f7126) 72 f7226) 73 f73x) 0 gx) 4 f4x) 6 f6x) 5 f5x) 2 f2wx) 3 f3wx) 74 f74x) (fT (fT (fT vG 1 gsx) 7 Fx) 8 L8x)) → va_S A s.heap H locs → lv_has ls 3 [(0, .ref h0), (1, .int kq)] → W p l e _ s m _ below meth c H locs 0 0 _ (F0 m 77 ls [])) => loop (nd26 + 1) ((nI nd26) - 1) nd26 f7326 gp f2wp f3wp f4p f5p f6p f74p gsp Fp L8p qdp qkp cn2p rn2p gn2p mP _ _ _ (hBP) (by exact pk_sub_toInt (a := nd26) (b := 1) (by omega) (by omega)) (by omega) (hPP) (h51P) (hoP) (by omega) hP hD hS hl) ?_
        intro n9
        induction n9 with
        | zero => intro kq kk1 f73x gx f2wx f3wx f4x f5x f6x f74x gsx Fx L8x qdx qkx cn2x rn2x gn2x m5 H locs ls hB5 hkq hkn hPP5 h515 ho5 hf9; exact False.elim (by omega)
        | succ n9 ih77 =>
          intro kq kk1 f73x gx f2wx f3wx f4x f5x f6x f74x gsx Fx L8x qdx qkx cn2x rn2x gn2x m5 H locs ls hB5 hkq hkn hPP5 h515 ho5 hf77 hP hD hS hl
          refine lv_iload_n hx hb dX12_prove_77 rfl (lv_at hl 1 rfl) ?_
          refine lv_if_lt (tgt := 108) hx hb dX12_prove_78 (by decide) (fun c_78 => ?_) (fun c_78 => ?_)
          · have t_78 : (kq).toInt < 0 := toI_lt c_78 rfl (by decide)
            refine lv_aload_n hx hb dX12_prove_108 rfl (lv_at hl 0 rfl) ?_
            have hFc := allFree hD hS hA
            refine va_calli (va_runV (As := []) (rest := []) ⟨hx, hb, hml, hown, hts⟩ (r_X12_addsUp l dC dI a k h0 (fT (fT (fT (fT (fT (fT (fT (fT vi 0 0) 119 (nI nd26)) 116 0) 5 cn2x) 6 rn2x) 7 gn2x) 11 qkx) 118 sh) (fT vj 12 qdx) (fT (fT (fT (fT (fT (fT (fT (fT (fT (fT vF 71 f7126) 72 f7226) 73 f73x) 0 gx) 4 f4x) 6 f6x) 5 f5x) 2 f2wx) 3 f3wx) 74 f74x) (fT (fT (fT vG 1 gsx) 7 Fx) 8 L8x) vn mr gq z26 nd26 m5 hB5 (by first | with_reducible assumption | decide | omega | rfl | assumption) (by first | with_reducible assumption | decide | omega | rfl | assumption) (by first | with_reducible assumption | decide | omega | rfl | assumption) (by first | with_reducible assumption | decide | omega | rfl | assumption) (by first | with_reducible assumption | decide | omega | rfl | assumption) (by first | with_reducible assumption | decide | omega | rfl | assumption) (rfl) (f26_0) H.size) (cwV 0 hts gwsRX12_prove_4 rfl rfl rfl hd_yX12_addsUp_RX12 (by decide +kernel)) (fz_pre (va_recv hK hP (ci := 12) (q0 := 0) rfl rfl) hP hK hD) rfl rfl hl.1 rfl (lv_room (Nat.le_of_ble_eq_true rfl)) dX12_prove_109 (by decide +kernel)) hS (fun q _ h => hFc q h) hFc (fun r109 u t9_ H locs ht hvm hw9 hB9 hz1 hk1 hS => ?_)
            revert u hw9 hB9
            refine fz_p16 ?_
            intro g109 f2w109 f3w109 f4109 f5109 f6109 f74109 gs109 F109 L8109 qd109 C109 R109 t2109 D2109 m2109 hw9 hB9
            try dsimp only at hw9 hB9
            have e9i : fT (fT (fT (fT (fT (fT (fT (fT vi 0 0) 119 (nI nd26)) 116 0) 5 (nI C109)) 6 (nI R109)) 7 (nI 2)) 11 0) 118 sh = fT (fT (fT (fT (fT (fT (fT (fT (fT (fT (fT (fT vi 0 0) 119 (nI nd26)) 116 0) 5 cn2x) 6 rn2x) 7 gn2x) 11 qkx) 118 sh) 5 (nI C109)) 6 (nI R109)) 7 (nI 2)) 11 0 := Eq.symm (Eq.trans (congrArg (fun g9 => fT g9 11 0) (Eq.trans (congrArg (fun g9 => fT g9 7 (nI 2)) (Eq.trans (congrArg (fun g9 => fT g9 6 (nI R109)) (up_4 rfl)) (up_3 rfl))) (up_2 rfl))) (up_1 rfl))
            have e9j : fT vj 12 qd109 = fT (fT vj 12 qdx) 12 qd109 := (fT_sm _ _ _ _).symm
            have e9F : fT (fT (fT (fT (fT (fT (fT (fT (fT (fT vF 71 f7126) 72 f7226) 73 f73x) 0 g109) 4 f4109) 6 f6109) 5 f5109) 2 f2w109) 3 f3w109) 74 f74109 = fT (fT (fT (fT (fT (fT (fT (fT (fT (fT (fT (fT (fT (fT (fT (fT (fT vF 71 f7126) 72 f7226) 73 f73x) 0 gx) 4 f4x) 6 f6x) 5 f5x) 2 f2wx) 3 f3wx) 74 f74x) 74 f74109) 0 g109) 4 f4109) 6 f6109) 2 f2w109) 3 f3w109) 5 f5109 := Eq.symm (Eq.trans (congrArg (fun g9 => fT g9 5 f5109) (Eq.trans (congrArg (fun g9 => fT g9 3 f3w109) (Eq.trans (congrArg (fun g9 => fT g9 2 f2w109) (Eq.trans (congrArg (fun g9 => fT g9 6 f6109) (Eq.trans (congrArg (fun g9 => fT g9 4 f4109) (Eq.trans (congrArg (fun g9 => fT g9 0 g109) (up_0 rfl)) (up_6 rfl))) (up_5 rfl))) (up_4 rfl))) (up_2 rfl))) (up_1 rfl))) (up_3 rfl))
            have e9G : fT (fT (fT vG 1 gs109) 7 F109) 8 L8109 = fT (fT (fT (fT (fT (fT vG 1 gsx) 7 Fx) 8 L8x) 1 gs109) 7 F109) 8 L8109 := ((congrArg (fun g9 => fT (fT g9 7 F109) 8 L8109) ((fT_sw _ _ _ (Nat.ne_of_beq_eq_false rfl)).trans (congrArg (fun g9 => fT g9 8 L8x) ((fT_sw _ _ _ (Nat.ne_of_beq_eq_false rfl)).trans (congrArg (fun g9 => fT g9 7 Fx) (fT_sm _ _ _ _)))))).trans ((congrArg (fun g9 => fT g9 8 L8109) ((fT_sw _ _ _ (Nat.ne_of_beq_eq_false rfl)).trans (congrArg (fun g9 => fT g9 8 L8x) (fT_sm _ _ _ _)))).trans (fT_sm _ _ _ _))).symm
            have hP := wr_PG e9G (wr_PF e9F (wr_Pj e9j (wr_Pi e9i (fz_P ht hB9.1))))
            have hD := wr_DG e9G (wr_DF e9F (wr_Dj e9j (wr_Di e9i (hB9.2.weaken (fun _ q _ h => hFc q.1 h)))))
            clear e9i e9j e9F e9G
            revert hw9
            refine fz_a9 ?_
            intro f109_0 f109_1 f109_2 f109_3 f109_4 f109_5 f109_6 f109_7 f109_8
            have f109_6 : 0 < m2109 1045 ∧ Sz 67 (m2109 1045) ∧ (sh ≠ 0 → m2109 1045 = 1) := f109_6
            refine lv_pop hx hb dX12_prove_112 rfl ?_
            refine lv_aload_n hx hb dX12_prove_113 rfl (lv_at hl 0 rfl) ?_
            have hFc := allFree hD hS hA
            refine va_callv (va_runV (As := []) (rest := []) ⟨hx, hb, hml, hown, hts⟩ (r_X12_multipliers l dC dI a k h0 (fT (fT (fT (fT (fT (fT (fT (fT vi 0 0) 119 (nI nd26)) 116 0) 5 (nI C109)) 6 (nI R109)) 7 (nI 2)) 11 0) 118 sh) (fT vj 12 qd109) (fT (fT (fT (fT (fT (fT (fT (fT (fT (fT vF 71 f7126) 72 f7226) 73 f73x) 0 g109) 4 f4109) 6 f6109) 5 f5109) 2 f2w109) 3 f3w109) 74 f74109) (fT (fT (fT vG 1 gs109) 7 F109) 8 L8109) C109 R109 2 t2109 D2109 vn mr z26 nd26 m2109 f109_0 (by first | with_reducible assumption | decide | omega | rfl | assumption) (by first | with_reducible assumption | decide | omega | rfl | assumption) (rfl) (by first | with_reducible assumption | decide | omega | rfl | assumption) (by first | with_reducible assumption | decide | omega | rfl | assumption) (by (have h9 : (R109 + 2) * (C109 + 1) ≤ 20 * 42 := Nat.mul_le_mul (by omega) (by omega)); omega) (f109_1) (f109_3) (f109_2) (⟨f109_6.1, f109_6.2.1⟩) (by first | with_reducible assumption | decide | omega | rfl | assumption) (by first | with_reducible assumption | decide | omega | rfl | assumption) (rfl) (f26_0) H.size) (cwV 0 hts gwsRX12_prove_5 rfl rfl rfl hd_yX12_multipliers_RX12 (by decide +kernel)) (fz_pre (va_recv hK hP (ci := 12) (q0 := 0) rfl rfl) hP hK hD) rfl rfl hl.1 rfl (lv_room (Nat.le_of_ble_eq_true rfl)) dX12_prove_114 (by decide +kernel)) hS (fun q _ h => hFc q h) hFc (fun u t9_ H locs ht hvm hw9 hB9 hz1 hk1 hS => ?_)
            revert u hw9 hB9
            refine fz_p3 ?_
            intro g114 gs114 m2114 hw9 hB9
            try dsimp only at hw9 hB9
            have e9F : fT (fT (fT (fT (fT (fT (fT (fT (fT (fT vF 71 f7126) 72 f7226) 73 f73x) 0 g114) 4 f4109) 6 f6109) 5 f5109) 2 f2w109) 3 f3w109) 74 f74109 = fT (fT (fT (fT (fT (fT (fT (fT (fT (fT (fT vF 71 f7126) 72 f7226) 73 f73x) 0 g109) 4 f4109) 6 f6109) 5 f5109) 2 f2w109) 3 f3w109) 74 f74109) 0 g114 := Eq.symm (up_6 rfl)
            have e9G : fT (fT (fT vG 1 gs114) 7 F109) 8 L8109 = fT (fT (fT (fT vG 1 gs109) 7 F109) 8 L8109) 1 gs114 := ((fT_sw _ _ _ (Nat.ne_of_beq_eq_false rfl)).trans (congrArg (fun g9 => fT g9 8 L8109) ((fT_sw _ _ _ (Nat.ne_of_beq_eq_false rfl)).trans (congrArg (fun g9 => fT g9 7 F109) (fT_sm _ _ _ _))))).symm
            have hP := wr_PG e9G (wr_PF e9F (fz_P ht hB9.1))
            have hD := wr_DG e9G (wr_DF e9F (hB9.2.weaken (fun _ q _ h => hFc q.1 h)))
            clear e9F e9G
            revert hw9
            refine fz_a3 ?_
            intro f114_0 f114_1 f114_2
            refine lv_aload_n hx hb dX12_prove_117 rfl (lv_at hl 0 rfl) ?_
            refine lv_iconst (v := 1) hx hb dX12_prove_118 (by decide) ?_
            refine va_put (D := (dC, dI)) (ci := 12) (v := .int 1) (ty := .boolean) (C := RX12) (T := TX12) (N := 163) (fs := fM (vS a (fT (fT (fT (fT (fT (fT (fT (fT vi 0 0) 119 (nI nd26)) 116 0) 5 (nI C109)) 6 (nI R109)) 7 (nI 2)) 11 0) 118 sh) (fT vj 12 qd109))) hx hb hts iwsRX12_prove_in12 tyX12 tyX12_ok nmX12 hown hK hP hD hS 0 rfl rfl 117 (by decide) (hts (.fieldLink RX12 814 "OptimaWorksModel" "hasProof" "Z") (by decide +kernel)) (fun _ h9 => h9) rfl (by decide +kernel) rfl rfl (Nat.le_of_ble_eq_true rfl) dX12_prove_119 (fun H locs hP hD hS => ?_)
            have hP : va_P (dC, dI) vwCl (WR a k h0 (fT (fT (fT (fT (fT (fT (fT (fT (fT vi 0 0) 119 (nI nd26)) 116 0) 5 (nI C109)) 6 (nI R109)) 7 (nI 2)) 11 0) 118 sh) 117 1) (fT vj 12 qd109) (fT (fT (fT (fT (fT (fT (fT (fT (fT (fT vF 71 f7126) 72 f7226) 73 f73x) 0 g114) 4 f4109) 6 f6109) 5 f5109) 2 f2w109) 3 f3w109) 74 f74109) (fT (fT (fT vG 1 gs114) 7 F109) 8 L8109)) H := fz_w (WR_i 117 _ rfl) hP
            have hD : va_D A (WR a k h0 (fT (fT (fT (fT (fT (fT (fT (fT (fT vi 0 0) 119 (nI nd26)) 116 0) 5 (nI C109)) 6 (nI R109)) 7 (nI 2)) 11 0) 118 sh) 117 1) (fT vj 12 qd109) (fT (fT (fT (fT (fT (fT (fT (fT (fT (fT vF 71 f7126) 72 f7226) 73 f73x) 0 g114) 4 f4109) 6 f6109) 5 f5109) 2 f2w109) 3 f3w109) 74 f74109) (fT (fT (fT vG 1 gs114) 7 F109) 8 L8109)) := fz_wD (WR_i 117 _ rfl) hD
            refine lv_iconst (v := 0) hx hb dX12_prove_122 (by decide) ?_
            refine lv_istore_n hx hb dX12_prove_123 rfl hl (by decide) rfl (fun ls (hl : lv_has ls _ ([(1, .int 0), (0, .ref h0)])) => ?_)
            refine lv_iconst (v := 0) hx hb dX12_prove_124 (by decide) ?_
            refine lv_istore_n hx hb dX12_prove_125 rfl hl (by decide) rfl (fun ls (hl : lv_has ls _ ([(2, .int 0), (1, .int 0), (0, .ref h0)])) => ?_)
            have hl : lv_has _ _ ([(0, .ref h0), (1, .int 0), (2, .int (nI 0))]) := lv_sub hl [2, 1, 0] rfl
            refine (fun (loop : ∀ (n9 : Nat) (i6 : Nat) (nq : Int32) (H : Heap) (locs : List Loc) (ls : Array Slot), (i6 ≤ nd26) →  (nd26 < i6 + n9) → va_P (dC, dI) vwCl (WR a k h0 (fT (fT (fT (fT (fT (fT (fT (fT (fT vi 0 0) 119 (nI nd26)) 116 0) 5 (nI C109)) 6 (nI R109)) 7 (nI 2)) 11 0) 118 sh) 117 1) (fT vj 12 qd109) (fT (fT (fT (fT (fT (fT (fT (fT (fT (fT vF 71 f7126) 72 f7226) 73 f73x) 0 g114) 4 f4109) 6 f6109) 5 f5109) 2 f2w109) 3 f3w109) 74 f74109) (fT (fT (fT vG 1 gs114) 7 F109) 8 L8109)) H → va_D A (WR a k h0 (fT (fT (fT (fT (fT (fT (fT (fT (fT vi 0 0) 119 (nI nd26)) 116 0) 5 (nI C109)) 6 (nI R109)) 7 (nI 2)) 11 0) 118 sh) 117 1) (fT vj 12 qd109) (fT (fT (fT (fT (fT (fT (fT (fT (fT (fT vF 71 f7126) 72 f7226) 73 f73x) 0 g114) 4 f4109) 6 f6109) 5 f5109) 2 f2w109) 3 f3w109) 74 f74109) (fT (fT (fT vG 1 gs114) 7 F109) 8 L8109)) → va_S A s.heap H locs → lv_has ls 3 [(0, .ref h0), (1, .int nq), (2, .int (nI i6))] → W p l e _ s m _ below meth c H locs 0 0 _ (F0 m 126 ls [])) => loop (nd26 + 1) 0 0 _ _ _ (by omega) (by omega) hP hD hS hl) ?_
            intro n9
            induction n9 with
            | zero => intro i6 nq H locs ls hi6 hf9; exact False.elim (by omega)
            | succ n9 ih126_1 =>
              intro i6 nq H locs ls hi6 hf126_1 hP hD hS hl
              refine lv_iload_n hx hb dX12_prove_126 rfl (lv_at hl 2 rfl) ?_
              refine lv_aload_n hx hb dX12_prove_127 rfl (lv_at hl 0 rfl) ?_
              refine va_get (D := (dC, dI)) (ci := 12) (v := .int (nI nd26)) (C := RX12) (T := TX12) (N := 163) (fs := fM (vS a (fT (fT (fT (fT (fT (fT (fT (fT (fT vi 0 0) 119 (nI nd26)) 116 0) 5 (nI C109)) 6 (nI R109)) 7 (nI 2)) 11 0) 118 sh) 117 1) (fT vj 12 qd109))) hx hb hts iwsRX12_prove_in12 hown hK hP 0 rfl rfl 119 (by decide) (hts _ hm_r_X12_prove_2) (fun _ h9 => h9) rfl dX12_prove_128 ?_
              refine lv_icmp_ge (tgt := 149) hx hb dX12_prove_131 (by decide) (fun c_131 => ?_) (fun c_131 => ?_)
              · have t_131 : ((i6 : Nat) : Int) ≥ ((nd26 : Nat) : Int) := toI_ge c_131 (nI_toInt (by omega)) (nI_toInt (by omega))
                refine lv_iload_n hx hb dX12_prove_149 rfl (lv_at hl 1 rfl) ?_
                refine W.widen (k := 0) (n := 0) (by decide +kernel) (by decide +kernel) ?_
                exact W.iret (v := nq) hx hb hr (fun t9_ ht hW => ⟨⟨nq, (g114, f2w109, f3w109, f4109, f5109, f6109, f74109, gs114, F109, L8109, qd109, 0, (nI C109), (nI R109), (nI 2), f7126, f7226, f73x, 0, sh, 1, 0, nd26, m2114), rfl, by (try dsimp only); exact ⟨f114_0, (f33_1).frame (fun p h1 h2 => by rw [f114_2 p (by omega) (by omega) (by omega), f109_7 p (by omega) (by omega)]; exact ho5 p (by omega) (by omega)), fun _ => ⟨by rw [f114_2 1051 (by omega) (by omega) (by omega), f109_7 1051 (by omega) (by omega)]; exact h515, f114_1⟩, fun q h1 h2 => by rw [f114_2 q (by omega) (by omega) (by omega), f109_7 q (by omega) (by omega), ho5 q h1 (by omega), f33_2 q (by omega)], hz28, Or.inr rfl⟩, by rw [ht]; exact hP, hD⟩, hS.F ht⟩) hS.2.2 dX12_prove_150
              · have t_131 : ¬ ((i6 : Nat) : Int) ≥ ((nd26 : Nat) : Int) := toI_nge c_131 (nI_toInt (by omega)) (nI_toInt (by omega))
                refine lv_iload_n hx hb dX12_prove_134 rfl (lv_at hl 1 rfl) ?_
                refine lv_aload_n hx hb dX12_prove_135 rfl (lv_at hl 0 rfl) ?_
                refine va_get (D := (dC, dI)) (ci := 12) (v := .ref (a 73)) (C := RX12) (T := TX12) (N := 163) (fs := fM (vS a (fT (fT (fT (fT (fT (fT (fT (fT (fT vi 0 0) 119 (nI nd26)) 116 0) 5 (nI C109)) 6 (nI R109)) 7 (nI 2)) 11 0) 118 sh) 117 1) (fT vj 12 qd109))) hx hb hts iwsRX12_prove_in12 hown hK hP 0 rfl rfl 122 (by decide) (hts _ hm_r_X12_prove_3) (fun _ h9 => h9) rfl dX12_prove_136 ?_
                refine lv_iload_n hx hb dX12_prove_139 rfl (lv_at hl 2 rfl) ?_
                refine va_iald (cA := k 73) (n := 28) (f := f73x) hx hb hK hP 74 73 (WR_get 73 (by decide)) (TR_get 73 (by decide)) (vp_in_nI (show i6 < 28 by omega) (by omega)) dX12_prove_140 ?_
                refine lv_topi (fun y1 hy1 => ?_)
                obtain rfl : (f73x i6) = y1 := (hy1.trans (by rw [nI_clamp (by omega)])).symm
                refine lv_iadd hx hb dX12_prove_141 ?_
                refine lv_istore_n hx hb dX12_prove_142 rfl hl (by decide) rfl (fun ls (hl : lv_has ls _ ([(1, .int (nq + (f73x i6))), (0, .ref h0), (2, .int (nI i6))])) => ?_)
                refine lv_iinc (v := (nI (i6 + 1))) hx hb dX12_prove_143 hl (k := 2) rfl (nI_add i6 1) (by decide) rfl (fun ls (hl : lv_has ls _ ([(2, .int (nI (i6 + 1))), (1, .int (nq + (f73x i6))), (0, .ref h0)])) => ?_)
                refine lv_goto (tgt := 126) hx hb dX12_prove_146 (by decide) ?_
                have hl : lv_has _ _ ([(0, .ref h0), (1, .int (nq + (f73x i6))), (2, .int (nI (i6 + 1)))]) := lv_sub hl [2, 1, 0] rfl
                exact ih126_1 (i6 + 1) (nq + (f73x i6)) _ _ _ (by omega) (by omega) hP hD hS hl
          · have t_78 : ¬ (kq).toInt < 0 := toI_nlt c_78 rfl (by decide)
            obtain ⟨kk, h_kk, rfl⟩ := of_toInt (x := kq) (k := 28) (by omega) (by omega)
            have e_kk : (nI kk).toInt = (kk : Int) := nI_toInt (by omega)
            refine lv_aload_n hx hb dX12_prove_81 rfl (lv_at hl 0 rfl) ?_
            refine va_get (D := (dC, dI)) (ci := 12) (v := .ref (a 73)) (C := RX12) (T := TX12) (N := 163) (fs := fM (vS a (fT (fT (fT (fT (fT (fT (fT (fT vi 0 0) 119 (nI nd26)) 116 0) 5 cn2x) 6 rn2x) 7 gn2x) 11 qkx) 118 sh) (fT vj 12 qdx))) hx hb hts iwsRX12_prove_in12 hown hK hP 0 rfl rfl 122 (by decide) (hts _ hm_r_X12_prove_3) (fun _ h9 => h9) rfl dX12_prove_82 ?_
            refine lv_iload_n hx hb dX12_prove_85 rfl (lv_at hl 1 rfl) ?_
            refine lv_iconst (v := 0) hx hb dX12_prove_86 (by decide) ?_
            refine va_iast (cA := k 73) (n := 28) (f := f73x) hx hb hK hP hD hS 74 73 (WR_get 73 (by decide)) (TR_get 73 (by decide)) (vp_in_nI (show kk < 28 by omega) (by omega)) dX12_prove_87 (fun H locs hP hD hS => ?_)
            have e9 : fT (fT (fT (fT (fT (fT (fT (fT (fT (fT vF 71 f7126) 72 f7226) 73 (upd f73x ((nI kk)).toNatClampNeg 0)) 0 gx) 4 f4x) 6 f6x) 5 f5x) 2 f2wx) 3 f3wx) 74 f74x = fT (fT (fT (fT (fT (fT (fT (fT (fT (fT (fT vF 71 f7126) 72 f7226) 73 f73x) 0 gx) 4 f4x) 6 f6x) 5 f5x) 2 f2wx) 3 f3wx) 74 f74x) 73 (upd f73x ((nI kk)).toNatClampNeg 0) := Eq.symm (up_7 rfl)
            have hP := wr_PF e9 (fz_w (WR_F 73 (by decide) _ rfl) hP)
            have hD := wr_DF e9 (fz_wD (WR_F 73 (by decide) _ rfl) hD)
            clear e9
            refine lv_aload_n hx hb dX12_prove_88 rfl (lv_at hl 0 rfl) ?_
            have hFc := allFree hD hS hA
            refine va_calli (va_runV (As := []) (rest := []) ⟨hx, hb, hml, hown, hts⟩ (r_X12_proves l dC dI a k h0 (fT (fT (fT (fT (fT (fT (fT (fT vi 0 0) 119 (nI nd26)) 116 0) 5 cn2x) 6 rn2x) 7 gn2x) 11 qkx) 118 sh) (fT vj 12 qdx) (fT (fT (fT (fT (fT (fT (fT (fT (fT (fT vF 71 f7126) 72 f7226) 73 (upd f73x ((nI kk)).toNatClampNeg 0)) 0 gx) 4 f4x) 6 f6x) 5 f5x) 2 f2wx) 3 f3wx) 74 f74x) (fT (fT (fT vG 1 gsx) 7 Fx) 8 L8x) vn mr gq z26 nd26 m5 hB5 (by first | with_reducible assumption | decide | omega | rfl | assumption) (by first | with_reducible assumption | decide | omega | rfl | assumption) (by first | with_reducible assumption | decide | omega | rfl | assumption) (by first | with_reducible assumption | decide | omega | rfl | assumption) (by first | with_reducible assumption | decide | omega | rfl | assumption) (by first | with_reducible assumption | decide | omega | rfl | assumption) (rfl) (f26_0) (hPP5) H.size) (cwV 0 hts gwsRX12_prove_6 rfl rfl rfl hd_yX12_proves_RX12 (by decide +kernel)) (fz_pre (va_recv hK hP (ci := 12) (q0 := 0) rfl rfl) hP hK hD) rfl rfl hl.1 rfl (lv_room (Nat.le_of_ble_eq_true rfl)) dX12_prove_89 (by decide +kernel)) hS (fun q _ h => hFc q h) hFc (fun r89 u t9_ H locs ht hvm hw9 hB9 hz1 hk1 hS => ?_)
            revert u hw9 hB9
            refine fz_p15 ?_
            intro g89 f2w89 f3w89 f489 f589 f689 f7489 gs89 F89 L889 qd89 m289 cn289 rn289 gn289 hw9 hB9
            try dsimp only at hw9 hB9
            have e9i : fT (fT (fT (fT (fT (fT (fT (fT vi 0 0) 119 (nI nd26)) 116 0) 5 cn289) 6 rn289) 7 gn289) 11 0) 118 sh = fT (fT (fT (fT (fT (fT (fT (fT (fT (fT (fT (fT vi 0 0) 119 (nI nd26)) 116 0) 5 cn2x) 6 rn2x) 7 gn2x) 11 qkx) 118 sh) 5 cn289) 6 rn289) 7 gn289) 11 0 := Eq.symm (Eq.trans (congrArg (fun g9 => fT g9 11 0) (Eq.trans (congrArg (fun g9 => fT g9 7 gn289) (Eq.trans (congrArg (fun g9 => fT g9 6 rn289) (up_4 rfl)) (up_3 rfl))) (up_2 rfl))) (up_1 rfl))
            have e9j : fT vj 12 qd89 = fT (fT vj 12 qdx) 12 qd89 := (fT_sm _ _ _ _).symm
            have e9F : fT (fT (fT (fT (fT (fT (fT (fT (fT (fT vF 71 f7126) 72 f7226) 73 (upd f73x ((nI kk)).toNatClampNeg 0)) 0 g89) 4 f489) 6 f689) 5 f589) 2 f2w89) 3 f3w89) 74 f7489 = fT (fT (fT (fT (fT (fT (fT (fT (fT (fT (fT (fT (fT (fT (fT (fT (fT vF 71 f7126) 72 f7226) 73 (upd f73x ((nI kk)).toNatClampNeg 0)) 0 gx) 4 f4x) 6 f6x) 5 f5x) 2 f2wx) 3 f3wx) 74 f74x) 74 f7489) 0 g89) 4 f489) 6 f689) 2 f2w89) 3 f3w89) 5 f589 := Eq.symm (Eq.trans (congrArg (fun g9 => fT g9 5 f589) (Eq.trans (congrArg (fun g9 => fT g9 3 f3w89) (Eq.trans (congrArg (fun g9 => fT g9 2 f2w89) (Eq.trans (congrArg (fun g9 => fT g9 6 f689) (Eq.trans (congrArg (fun g9 => fT g9 4 f489) (Eq.trans (congrArg (fun g9 => fT g9 0 g89) (up_0 rfl)) (up_6 rfl))) (up_5 rfl))) (up_4 rfl))) (up_2 rfl))) (up_1 rfl))) (up_3 rfl))
            have e9G : fT (fT (fT vG 1 gs89) 7 F89) 8 L889 = fT (fT (fT (fT (fT (fT vG 1 gsx) 7 Fx) 8 L8x) 1 gs89) 7 F89) 8 L889 := ((congrArg (fun g9 => fT (fT g9 7 F89) 8 L889) ((fT_sw _ _ _ (Nat.ne_of_beq_eq_false rfl)).trans (congrArg (fun g9 => fT g9 8 L8x) ((fT_sw _ _ _ (Nat.ne_of_beq_eq_false rfl)).trans (congrArg (fun g9 => fT g9 7 Fx) (fT_sm _ _ _ _)))))).trans ((congrArg (fun g9 => fT g9 8 L889) ((fT_sw _ _ _ (Nat.ne_of_beq_eq_false rfl)).trans (congrArg (fun g9 => fT g9 8 L8x) (fT_sm _ _ _ _)))).trans (fT_sm _ _ _ _))).symm
            have hP := wr_PG e9G (wr_PF e9F (wr_Pj e9j (wr_Pi e9i (fz_P ht hB9.1))))
            have hD := wr_DG e9G (wr_DF e9F (wr_Dj e9j (wr_Di e9i (hB9.2.weaken (fun _ q _ h => hFc q.1 h)))))
            clear e9i e9j e9F e9G
            revert hw9
            refine fz_a3 ?_
            intro f89_0 f89_1 f89_2
            refine lv_if_ne (tgt := 102) hx hb dX12_prove_92 (by decide) (fun c_92 => ?_) (fun c_92 => ?_)
            · have t_92 : (r89).toInt ≠ 0 := toI_ne c_92 rfl (by decide)
              refine lv_iinc (v := ((nI kk) + (-1))) hx hb dX12_prove_102 hl (k := 1) rfl rfl (by decide) rfl (fun ls (hl : lv_has ls _ ([(1, .int ((nI kk) + (-1))), (0, .ref h0)])) => ?_)
              refine lv_goto (tgt := 77) hx hb dX12_prove_105 (by decide) ?_
              have hl : lv_has _ _ ([(0, .ref h0), (1, .int ((nI kk) + (-1)))]) := lv_sub hl [1, 0] rfl
              exact ih77 ((nI kk) + (-1)) (kk1 - 1) (upd f73x ((nI kk)).toNatClampNeg 0) g89 f2w89 f3w89 f489 f589 f689 f7489 gs89 F89 L889 qd89 0 cn289 rn289 gn289 m289 _ _ _ (f89_0) (by rw [m1T (by omega)]; omega) (by omega) (by rw [f89_2 1046 (by omega) (by omega) (by omega), f89_2 1047 (by omega) (by omega) (by omega)]; exact hPP5) (by rw [f89_2 1051 (by omega) (by omega) (by omega)]; exact h515) (fun q h1 h2 => by rw [f89_2 q h1 (by omega) (by omega)]; exact ho5 q h1 h2) (by omega) hP hD hS hl
            · have t_92 : (r89).toInt = 0 := toI_nne c_92 rfl (by decide)
              refine lv_aload_n hx hb dX12_prove_95 rfl (lv_at hl 0 rfl) ?_
              refine va_get (D := (dC, dI)) (ci := 12) (v := .ref (a 73)) (C := RX12) (T := TX12) (N := 163) (fs := fM (vS a (fT (fT (fT (fT (fT (fT (fT (fT vi 0 0) 119 (nI nd26)) 116 0) 5 cn289) 6 rn289) 7 gn289) 11 0) 118 sh) (fT vj 12 qd89))) hx hb hts iwsRX12_prove_in12 hown hK hP 0 rfl rfl 122 (by decide) (hts _ hm_r_X12_prove_3) (fun _ h9 => h9) rfl dX12_prove_96 ?_
              refine lv_iload_n hx hb dX12_prove_99 rfl (lv_at hl 1 rfl) ?_
              refine lv_iconst (v := 1) hx hb dX12_prove_100 (by decide) ?_
              refine va_iast (cA := k 73) (n := 28) (f := (upd f73x ((nI kk)).toNatClampNeg 0)) hx hb hK hP hD hS 74 73 (WR_get 73 (by decide)) (TR_get 73 (by decide)) (vp_in_nI (show kk < 28 by omega) (by omega)) dX12_prove_101 (fun H locs hP hD hS => ?_)
              have e9 : fT (fT (fT (fT (fT (fT (fT (fT (fT (fT vF 71 f7126) 72 f7226) 73 (upd (upd f73x ((nI kk)).toNatClampNeg 0) ((nI kk)).toNatClampNeg 1)) 0 g89) 4 f489) 6 f689) 5 f589) 2 f2w89) 3 f3w89) 74 f7489 = fT (fT (fT (fT (fT (fT (fT (fT (fT (fT (fT vF 71 f7126) 72 f7226) 73 (upd f73x ((nI kk)).toNatClampNeg 0)) 0 g89) 4 f489) 6 f689) 5 f589) 2 f2w89) 3 f3w89) 74 f7489) 73 (upd (upd f73x ((nI kk)).toNatClampNeg 0) ((nI kk)).toNatClampNeg 1) := Eq.symm (up_7 rfl)
              have hP := wr_PF e9 (fz_w (WR_F 73 (by decide) _ rfl) hP)
              have hD := wr_DF e9 (fz_wD (WR_F 73 (by decide) _ rfl) hD)
              clear e9
              refine lv_iinc (v := ((nI kk) + (-1))) hx hb dX12_prove_102 hl (k := 1) rfl rfl (by decide) rfl (fun ls (hl : lv_has ls _ ([(1, .int ((nI kk) + (-1))), (0, .ref h0)])) => ?_)
              refine lv_goto (tgt := 77) hx hb dX12_prove_105 (by decide) ?_
              have hl : lv_has _ _ ([(0, .ref h0), (1, .int ((nI kk) + (-1)))]) := lv_sub hl [1, 0] rfl
              exact ih77 ((nI kk) + (-1)) (kk1 - 1) (upd (upd f73x ((nI kk)).toNatClampNeg 0) ((nI kk)).toNatClampNeg 1) g89 f2w89 f3w89 f489 f589 f689 f7489 gs89 F89 L889 qd89 0 cn289 rn289 gn289 m289 _ _ _ (f89_0) (by rw [m1T (by omega)]; omega) (by omega) (by rw [f89_2 1046 (by omega) (by omega) (by omega), f89_2 1047 (by omega) (by omega) (by omega)]; exact hPP5) (by rw [f89_2 1051 (by omega) (by omega) (by omega)]; exact h515) (fun q h1 h2 => by rw [f89_2 q h1 (by omega) (by omega)]; exact ho5 q h1 h2) (by omega) hP hD hS hl
theorem dX12_need_0 : decode cX12_need 0 = .ok (.aload_n 0, 1) := dk_42 (by decide +kernel)
theorem dX12_need_1 : decode cX12_need 1 = .ok (.iconst 0, 1) := dk_3 (by decide +kernel)
theorem dX12_need_2 : decode cX12_need 2 = .ok (.putfield 348, 3) := dk_181 (by decide +kernel)
theorem dX12_need_5 : decode cX12_need 5 = .ok (.aload_n 0, 1) := dk_42 (by decide +kernel)
theorem dX12_need_6 : decode cX12_need 6 = .ok (.getfield 814, 3) := dk_180 (by decide +kernel)
theorem dX12_need_9 : decode cX12_need 9 = .ok (.ifCond .eq 15, 3) := dk_153 (by decide +kernel)
theorem dX12_need_12 : decode cX12_need 12 = .ok (.iload_n 1, 1) := dk_27 (by decide +kernel)
theorem dX12_need_13 : decode cX12_need 13 = .ok (.ifCond .lt 11, 3) := dk_155 (by decide +kernel)
theorem dX12_need_16 : decode cX12_need 16 = .ok (.iload_n 1, 1) := dk_27 (by decide +kernel)
theorem dX12_need_17 : decode cX12_need 17 = .ok (.aload_n 0, 1) := dk_42 (by decide +kernel)
theorem dX12_need_18 : decode cX12_need 18 = .ok (.getfield 894, 3) := dk_180 (by decide +kernel)
theorem dX12_need_21 : decode cX12_need 21 = .ok (.if_icmp .lt 5, 3) := dk_161 (by decide +kernel)
theorem dX12_need_24 : decode cX12_need 24 = .ok (.iconst (-1), 1) := dk_2 (by decide +kernel)
theorem dX12_need_25 : decode cX12_need 25 = .ok (.ireturn, 1) := dk_172 (by decide +kernel)
theorem dX12_need_26 : decode cX12_need 26 = .ok (.iload_n 2, 1) := dk_28 (by decide +kernel)
theorem dX12_need_27 : decode cX12_need 27 = .ok (.ifCond .ne 12, 3) := dk_154 (by decide +kernel)
theorem dX12_need_30 : decode cX12_need 30 = .ok (.aload_n 0, 1) := dk_42 (by decide +kernel)
theorem dX12_need_31 : decode cX12_need 31 = .ok (.getfield 242, 3) := dk_180 (by decide +kernel)
theorem dX12_need_34 : decode cX12_need 34 = .ok (.iload_n 1, 1) := dk_27 (by decide +kernel)
theorem dX12_need_35 : decode cX12_need 35 = .ok (.iaload, 1) := dk_46 (by decide +kernel)
theorem dX12_need_36 : decode cX12_need 36 = .ok (.goto 32, 3) := dk_167 (by decide +kernel)
theorem dX12_need_39 : decode cX12_need 39 = .ok (.iload_n 2, 1) := dk_28 (by decide +kernel)
theorem dX12_need_40 : decode cX12_need 40 = .ok (.iconst 1, 1) := dk_4 (by decide +kernel)
theorem dX12_need_41 : decode cX12_need 41 = .ok (.if_icmp .ne 12, 3) := dk_160 (by decide +kernel)
theorem dX12_need_44 : decode cX12_need 44 = .ok (.aload_n 0, 1) := dk_42 (by decide +kernel)
theorem dX12_need_45 : decode cX12_need 45 = .ok (.getfield 239, 3) := dk_180 (by decide +kernel)
theorem dX12_need_48 : decode cX12_need 48 = .ok (.iload_n 1, 1) := dk_27 (by decide +kernel)
theorem dX12_need_49 : decode cX12_need 49 = .ok (.iaload, 1) := dk_46 (by decide +kernel)
theorem dX12_need_50 : decode cX12_need 50 = .ok (.goto 18, 3) := dk_167 (by decide +kernel)
theorem dX12_need_53 : decode cX12_need 53 = .ok (.iload_n 2, 1) := dk_28 (by decide +kernel)
theorem dX12_need_54 : decode cX12_need 54 = .ok (.iconst 2, 1) := dk_5 (by decide +kernel)
theorem dX12_need_55 : decode cX12_need 55 = .ok (.if_icmp .ne 12, 3) := dk_160 (by decide +kernel)
theorem dX12_need_58 : decode cX12_need 58 = .ok (.aload_n 0, 1) := dk_42 (by decide +kernel)
theorem dX12_need_59 : decode cX12_need 59 = .ok (.getfield 236, 3) := dk_180 (by decide +kernel)
theorem dX12_need_62 : decode cX12_need 62 = .ok (.iload_n 1, 1) := dk_27 (by decide +kernel)
theorem dX12_need_63 : decode cX12_need 63 = .ok (.iaload, 1) := dk_46 (by decide +kernel)
theorem dX12_need_64 : decode cX12_need 64 = .ok (.goto 4, 3) := dk_167 (by decide +kernel)
theorem dX12_need_67 : decode cX12_need 67 = .ok (.iconst (-1), 1) := dk_2 (by decide +kernel)
theorem dX12_need_68 : decode cX12_need 68 = .ok (.ireturn, 1) := dk_172 (by decide +kernel)
def wsRX12_need : List Cond := .code yX12_need cX12_need 3 (some .int) :: ([.fieldLink RX12 348 "OptimaWorksModel" "thrown" "I", .fieldLink RX12 814 "OptimaWorksModel" "hasProof" "Z", .fieldLink RX12 894 "OptimaWorksModel" "needs" "I", .fieldLink RX12 236 "OptimaWorksModel" "needKind" "[I", .fieldLink RX12 239 "OptimaWorksModel" "needOf" "[I", .fieldLink RX12 242 "OptimaWorksModel" "needKept" "[I"] ++ wsX120)
theorem iwsRX12_need_in12 : ∀ w ∈ wsX120, w ∈ wsRX12_need := fun _ h => List.mem_cons_of_mem _ (List.mem_append_right _ h)
theorem gdwsRX12_need : wsRX12_need.all goodWord = true := gdC rfl (gdA (by decide +kernel : ([.fieldLink RX12 348 "OptimaWorksModel" "thrown" "I", .fieldLink RX12 814 "OptimaWorksModel" "hasProof" "Z", .fieldLink RX12 894 "OptimaWorksModel" "needs" "I", .fieldLink RX12 236 "OptimaWorksModel" "needKind" "[I", .fieldLink RX12 239 "OptimaWorksModel" "needOf" "[I", .fieldLink RX12 242 "OptimaWorksModel" "needKept" "[I"] : List Cond).all goodWord = true) gdwsX120)
set_option maxHeartbeats 4000000 in
set_option maxRecDepth 100000 in
/-- need(i, what) -/
theorem r_X12_need (l : Launch) (dC : Nat → ClassId) (dI : Nat → Nat → Nat) (a : Nat → Nat) (k : Nat → ClassId) (h0 : Nat) (vi : Nat → Int32) (vj : Nat → Int64) (vF : Nat → Nat → Int32) (vG : Nat → Nat → Int64) (iv : Int32) (wv : Int32) (nd : Nat) (hnd : vi 119 = nI nd) (hnd28 : nd ≤ 28) (sz : Nat) : Met l yX12_need wsRX12_need ({ frames := 0, cells := 0, slots := 0, locals := 0 }) (va_Pc [.ref h0, .int iv, .int wv] (fun U => U.heap.size = sz ∧ va_P (dC, dI) vwCl (WR a k h0 vi vj vF vG) U.heap ∧ va_K (dC, dI) vwCl (tX12 k) U ∧ va_D (fun _ => True) (WR a k h0 vi vj vF vG))) (va_Qi (fun (r : Int32) (u : Unit) => True) (fun (u : Unit) t => va_P (dC, dI) vwCl (WR a k h0 (fT vi 0 0) vj vF vG) t.heap ∧ va_D (va_A (WR a k h0 vi vj vF vG) sz) (WR a k h0 (fT vi 0 0) vj vF vG)) (va_A (WR a k h0 vi vj vF vG) sz)) 0 0 (va_A (WR a k h0 vi vj vF vG) sz) := by
  refine Met.ofW (cc := cX12_need) (maxL := 3) (ret := (some .int)) (by decide) rfl ?_
  intro p e s m args below meth c s₁ B hml hv
  obtain ⟨rfl, hsz, hP, hK, hD0⟩ := hv
  have hx := B.exec
  have hb := B.bytes
  have hr := B.returns
  have hts := atoms_spec (ws := wsRX12_need) B.pre
  have hown : s.vm.findClass RX12 = some m.cls := findClass_of_methodNamed B.named
  have hlocks := B.notSynchronized
  subst hsz
  have hD := hD0.self (sz := s.heap.size)
  generalize hAe : va_A (WR a k h0 vi vj vF vG) s.heap.size = A at hD ⊢
  have hA : ∀ q : Nat, s.heap.size ≤ q → A q := fun q h => by rw [← hAe]; exact Or.inr h
  have hS : va_S A s.heap s.heap [] := va_S.rf
  have hl := lv_entry ([.ref h0, .int iv, .int wv]) (n := 3) (Nat.le_of_ble_eq_true rfl)
  rw [lg_entry_eq]
  generalize (lg_sl ([.ref h0, .int iv, .int wv]) ++ List.replicate (3 - (lg_sl ([.ref h0, .int iv, .int wv])).length) Slot.unset).toArray = ls at hl ⊢
  have hl : lv_has ls 3 [(0, .ref h0), (1, .int iv), (2, .int wv)] := hl
  refine lv_aload_n hx hb dX12_need_0 rfl (lv_at hl 0 rfl) ?_
  refine lv_iconst (v := 0) hx hb dX12_need_1 (by decide) ?_
  refine va_put (D := (dC, dI)) (ci := 12) (v := .int 0) (ty := .int) (C := RX12) (T := TX12) (N := 163) (fs := fM (vS a vi vj)) hx hb hts iwsRX12_need_in12 tyX12 tyX12_ok nmX12 hown hK hP hD hS 0 rfl rfl 0 (by decide) (hts (.fieldLink RX12 348 "OptimaWorksModel" "thrown" "I") (by decide +kernel)) (fun _ h9 => h9) rfl (by decide +kernel) rfl rfl (Nat.le_of_ble_eq_true rfl) dX12_need_2 (fun H locs hP hD hS => ?_)
  have hP : va_P (dC, dI) vwCl (WR a k h0 (fT vi 0 0) vj vF vG) H := fz_w (WR_i 0 _ rfl) hP
  have hD : va_D A (WR a k h0 (fT vi 0 0) vj vF vG) := fz_wD (WR_i 0 _ rfl) hD
  refine lv_aload_n hx hb dX12_need_5 rfl (lv_at hl 0 rfl) ?_
  refine va_get (D := (dC, dI)) (ci := 12) (v := .int (vi 117)) (C := RX12) (T := TX12) (N := 163) (fs := fM (vS a (fT vi 0 0) vj)) hx hb hts iwsRX12_need_in12 hown hK hP 0 rfl rfl 117 (by decide) (hts (.fieldLink RX12 814 "OptimaWorksModel" "hasProof" "Z") (by decide +kernel)) (fun _ h9 => h9) rfl dX12_need_6 ?_
  refine lv_if_eq (tgt := 24) hx hb dX12_need_9 (by decide) (fun c_9 => ?_) (fun c_9 => ?_)
  · have t_9 : ((vi 117)).toInt = 0 := toI_eq c_9 rfl (by decide)
    refine lv_iconst (v := (-1)) hx hb dX12_need_24 (by decide) ?_
    refine W.widen (k := 0) (n := 0) (by decide +kernel) (by decide +kernel) ?_
    exact W.iret (v := (-1)) hx hb hr (fun t9_ ht hW => ⟨⟨(-1), (), rfl, trivial, by rw [ht]; exact hP, hD⟩, hS.F ht⟩) hS.2.2 dX12_need_25
  · have t_9 : ¬ ((vi 117)).toInt = 0 := toI_neq c_9 rfl (by decide)
    refine lv_iload_n hx hb dX12_need_12 rfl (lv_at hl 1 rfl) ?_
    refine lv_if_lt (tgt := 24) hx hb dX12_need_13 (by decide) (fun c_13 => ?_) (fun c_13 => ?_)
    · have t_13 : (iv).toInt < 0 := toI_lt c_13 rfl (by decide)
      refine lv_iconst (v := (-1)) hx hb dX12_need_24 (by decide) ?_
      refine W.widen (k := 0) (n := 0) (by decide +kernel) (by decide +kernel) ?_
      exact W.iret (v := (-1)) hx hb hr (fun t9_ ht hW => ⟨⟨(-1), (), rfl, trivial, by rw [ht]; exact hP, hD⟩, hS.F ht⟩) hS.2.2 dX12_need_25
    · have t_13 : ¬ (iv).toInt < 0 := toI_nlt c_13 rfl (by decide)
      refine lv_iload_n hx hb dX12_need_16 rfl (lv_at hl 1 rfl) ?_
      refine lv_aload_n hx hb dX12_need_17 rfl (lv_at hl 0 rfl) ?_
      refine va_get (D := (dC, dI)) (ci := 12) (v := .int (vi 119)) (C := RX12) (T := TX12) (N := 163) (fs := fM (vS a (fT vi 0 0) vj)) hx hb hts iwsRX12_need_in12 hown hK hP 0 rfl rfl 119 (by decide) (hts (.fieldLink RX12 894 "OptimaWorksModel" "needs" "I") (by decide +kernel)) (fun _ h9 => h9) rfl dX12_need_18 ?_
      refine lv_topi (fun y1 hy1 => ?_)
      obtain rfl : (nI nd) = y1 := (hy1.trans (hnd)).symm
      refine lv_icmp_lt (tgt := 26) hx hb dX12_need_21 (by decide) (fun c_21 => ?_) (fun c_21 => ?_)
      · have t_21 : (iv).toInt < ((nd : Nat) : Int) := toI_lt c_21 rfl (nI_toInt (by omega))
        refine lv_iload_n hx hb dX12_need_26 rfl (lv_at hl 2 rfl) ?_
        refine lv_if_ne (tgt := 39) hx hb dX12_need_27 (by decide) (fun c_27 => ?_) (fun c_27 => ?_)
        · have t_27 : (wv).toInt ≠ 0 := toI_ne c_27 rfl (by decide)
          refine lv_iload_n hx hb dX12_need_39 rfl (lv_at hl 2 rfl) ?_
          refine lv_iconst (v := 1) hx hb dX12_need_40 (by decide) ?_
          refine lv_icmp_ne (tgt := 53) hx hb dX12_need_41 (by decide) (fun c_41 => ?_) (fun c_41 => ?_)
          · have t_41 : (wv).toInt ≠ 1 := toI_ne c_41 rfl (by decide)
            refine lv_iload_n hx hb dX12_need_53 rfl (lv_at hl 2 rfl) ?_
            refine lv_iconst (v := 2) hx hb dX12_need_54 (by decide) ?_
            refine lv_icmp_ne (tgt := 67) hx hb dX12_need_55 (by decide) (fun c_55 => ?_) (fun c_55 => ?_)
            · have t_55 : (wv).toInt ≠ 2 := toI_ne c_55 rfl (by decide)
              refine lv_iconst (v := (-1)) hx hb dX12_need_67 (by decide) ?_
              refine W.widen (k := 0) (n := 0) (by decide +kernel) (by decide +kernel) ?_
              exact W.iret (v := (-1)) hx hb hr (fun t9_ ht hW => ⟨⟨(-1), (), rfl, trivial, by rw [ht]; exact hP, hD⟩, hS.F ht⟩) hS.2.2 dX12_need_68
            · have t_55 : (wv).toInt = 2 := toI_nne c_55 rfl (by decide)
              refine lv_aload_n hx hb dX12_need_58 rfl (lv_at hl 0 rfl) ?_
              refine va_get (D := (dC, dI)) (ci := 12) (v := .ref (a 71)) (C := RX12) (T := TX12) (N := 163) (fs := fM (vS a (fT vi 0 0) vj)) hx hb hts iwsRX12_need_in12 hown hK hP 0 rfl rfl 120 (by decide) (hts (.fieldLink RX12 236 "OptimaWorksModel" "needKind" "[I") (by decide +kernel)) (fun _ h9 => h9) rfl dX12_need_59 ?_
              refine lv_iload_n hx hb dX12_need_62 rfl (lv_at hl 1 rfl) ?_
              refine va_iald (cA := k 71) (n := 28) (f := (vF 71)) hx hb hK hP 72 71 (WR_get 71 (by decide)) (TR_get 71 (by decide)) (vp_in_iff.mpr (by omega)) dX12_need_63 ?_
              refine lv_goto (tgt := 68) hx hb dX12_need_64 (by decide) ?_
              refine W.widen (k := 0) (n := 0) (by decide +kernel) (by decide +kernel) ?_
              exact W.iret (v := ((vF 71) (iv).toNatClampNeg)) hx hb hr (fun t9_ ht hW => ⟨⟨((vF 71) (iv).toNatClampNeg), (), rfl, trivial, by rw [ht]; exact hP, hD⟩, hS.F ht⟩) hS.2.2 dX12_need_68
          · have t_41 : (wv).toInt = 1 := toI_nne c_41 rfl (by decide)
            refine lv_aload_n hx hb dX12_need_44 rfl (lv_at hl 0 rfl) ?_
            refine va_get (D := (dC, dI)) (ci := 12) (v := .ref (a 72)) (C := RX12) (T := TX12) (N := 163) (fs := fM (vS a (fT vi 0 0) vj)) hx hb hts iwsRX12_need_in12 hown hK hP 0 rfl rfl 121 (by decide) (hts (.fieldLink RX12 239 "OptimaWorksModel" "needOf" "[I") (by decide +kernel)) (fun _ h9 => h9) rfl dX12_need_45 ?_
            refine lv_iload_n hx hb dX12_need_48 rfl (lv_at hl 1 rfl) ?_
            refine va_iald (cA := k 72) (n := 28) (f := (vF 72)) hx hb hK hP 73 72 (WR_get 72 (by decide)) (TR_get 72 (by decide)) (vp_in_iff.mpr (by omega)) dX12_need_49 ?_
            refine lv_goto (tgt := 68) hx hb dX12_need_50 (by decide) ?_
            refine W.widen (k := 0) (n := 0) (by decide +kernel) (by decide +kernel) ?_
            exact W.iret (v := ((vF 72) (iv).toNatClampNeg)) hx hb hr (fun t9_ ht hW => ⟨⟨((vF 72) (iv).toNatClampNeg), (), rfl, trivial, by rw [ht]; exact hP, hD⟩, hS.F ht⟩) hS.2.2 dX12_need_68
        · have t_27 : (wv).toInt = 0 := toI_nne c_27 rfl (by decide)
          refine lv_aload_n hx hb dX12_need_30 rfl (lv_at hl 0 rfl) ?_
          refine va_get (D := (dC, dI)) (ci := 12) (v := .ref (a 73)) (C := RX12) (T := TX12) (N := 163) (fs := fM (vS a (fT vi 0 0) vj)) hx hb hts iwsRX12_need_in12 hown hK hP 0 rfl rfl 122 (by decide) (hts (.fieldLink RX12 242 "OptimaWorksModel" "needKept" "[I") (by decide +kernel)) (fun _ h9 => h9) rfl dX12_need_31 ?_
          refine lv_iload_n hx hb dX12_need_34 rfl (lv_at hl 1 rfl) ?_
          refine va_iald (cA := k 73) (n := 28) (f := (vF 73)) hx hb hK hP 74 73 (WR_get 73 (by decide)) (TR_get 73 (by decide)) (vp_in_iff.mpr (by omega)) dX12_need_35 ?_
          refine lv_goto (tgt := 68) hx hb dX12_need_36 (by decide) ?_
          refine W.widen (k := 0) (n := 0) (by decide +kernel) (by decide +kernel) ?_
          exact W.iret (v := ((vF 73) (iv).toNatClampNeg)) hx hb hr (fun t9_ ht hW => ⟨⟨((vF 73) (iv).toNatClampNeg), (), rfl, trivial, by rw [ht]; exact hP, hD⟩, hS.F ht⟩) hS.2.2 dX12_need_68
      · have t_21 : ¬ (iv).toInt < ((nd : Nat) : Int) := toI_nlt c_21 rfl (nI_toInt (by omega))
        refine lv_iconst (v := (-1)) hx hb dX12_need_24 (by decide) ?_
        refine W.widen (k := 0) (n := 0) (by decide +kernel) (by decide +kernel) ?_
        exact W.iret (v := (-1)) hx hb hr (fun t9_ ht hW => ⟨⟨(-1), (), rfl, trivial, by rw [ht]; exact hP, hD⟩, hS.F ht⟩) hS.2.2 dX12_need_25
end
section
theorem natI_of {x : Int32} (h : 0 ≤ x.toInt) : x = nI x.toInt.natAbs := by
  have h1 := Int32.toInt_lt x
  refine Int32.toInt_inj.mp ?_
  rw [nI_toInt (by omega)]; omega
theorem natI_neg {x : Int32} (h : x.toInt < 0) (h2 : -2147483648 < x.toInt) : -x = nI x.toInt.natAbs := by
  refine Int32.toInt_inj.mp ?_
  rw [nI_toInt (by omega), Int32.toInt_neg, Int.bmod_eq_of_le (by omega) (by omega)]; omega
theorem div9 {u h : Nat} (hh : 0 < h) (h9 : ¬ ((u / h : Nat) : Int) ≤ 9) : h * 10 ≤ u := by
  have h1 : 10 ≤ u / h := by omega
  have := (Nat.le_div_iff_mul_le hh).mp h1
  omega
end

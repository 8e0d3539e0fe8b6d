theorem u_ne {f : Nat → Int32} {n q : Nat} {v : Int32} (h4 : n < 4000) (e : q ≠ n) : (upd f (nI n).toNatClampNeg v) q = f q := by rw [upd_at (by omega), if_neg e]
/-- nothing has been read -/
def RG0 : RG := ⟨fun _ => False, fun _ => 0, fun _ => 0, fun _ => 0, fun _ => 0, 0⟩
theorem RdD.first {T : Nat → Nat → Int32} {f29 f30 f31 f32 f36 f37 f38 f66 : Nat → Int32} {se fn : Nat} : RdD T RG0 f29 f30 f31 f32 f36 f37 f38 RG0 f29 f30 f31 f32 f36 f37 f38 f66 se 0 0 0 0 0 fn 0 :=
  ⟨⟨fun _ h => h.elim, fun _ h => h.elim, fun _ _ h => h.elim⟩, Ext.refl (), ⟨rfl, Nat.zero_le _, Nat.le_refl _, by omega, by decide, Nat.le_refl _⟩, fun i hi => absurd hi (by omega)⟩
theorem RdD.later {T : Nat → Nat → Int32} {G G' : RG} {f29 f30 f31 f32 f36 f37 f38 g29 g30 g31 g32 g36 g37 g38 g66 : Nat → Int32} {se bs bs' wi nd bd fn fn' pm : Nat} (h : RdD T G f29 f30 f31 f32 f36 f37 f38 G' g29 g30 g31 g32 g36 g37 g38 g66 se bs bs' wi nd bd fn pm) (hf : fn ≤ fn') : RdD T G f29 f30 f31 f32 f36 f37 f38 G' g29 g30 g31 g32 g36 g37 g38 g66 se bs bs' wi nd bd fn' pm := by
  obtain ⟨h1, h2, ⟨a1, a2, a3, a4, a5, a6⟩, h4⟩ := h
  exact ⟨h1, h2, ⟨a1, by omega, a3, by omega, a5, a6⟩, h4⟩
/-- the tables have grown -/
theorem RdV.tab {T T' : Nat → Nat → Int32} {G : RG} {f29 f30 f31 f32 f36 f37 f38 : Nat → Int32} {se nd bs : Nat} (h : RdV T G f29 f30 f31 f32 f36 f37 f38 se nd bs) (h17 : T' 17 = T 17) (h1 : T' 1 = T 1) (h2 : T' 2 = T 2) (h3 : T' 3 = T 3) (hp : ∀ a, a < (T 1 0).toInt.toNat → T' 18 a = T 18 a ∧ T' 19 a = T 19 a ∧ T' 20 a = T 20 a ∧ T' 21 a = T 21 a) (hv : ∀ a, a < (T 2 0).toInt.toNat → T' 24 a = T 24 a ∧ T' 25 a = T 25 a ∧ T' 26 a = T 26 a ∧ T' 27 a = T 27 a) : RdV T' G f29 f30 f31 f32 f36 f37 f38 se nd bs := by
  refine ⟨fun n hn => ?_, h.2⟩
  obtain ⟨a1, k, a2, a3⟩ := h.1 n hn
  refine ⟨a1, k, a2, a3.mono rfl rfl rfl rfl (by rw [ndF_T (by decide), ndF_T (by decide)]; exact h17) (fun a pl o1 o2 aT hk hS => ?_) (fun q hq => ⟨hq, rfl, rfl, rfl, rfl⟩) ⟨rfl, rfl, rfl⟩ (fun _ _ _ _ => ⟨rfl, rfl, rfl⟩)⟩
  have hS' : NamS T se k a pl o1 o2 aT := hS.cg (fun x hx => (ndF_T hx).symm)
  refine NamS.nd (hS'.grow (Nat.le_refl _) (fun e => hp a (hS'.2.2.2.2.2.1.1 e)) (fun e => hv a (hS'.2.2.2.2.2.1.2 e)) (by rw [h1]; exact Nat.le_refl _) (by rw [h2]; exact Nat.le_refl _) (fun o _ => congrFun h17 o) (fun _ => by unfold nuF; rw [h3]; exact Nat.le_refl _))
theorem PtO.set {f g : Nat → Int32} {n : Nat} {v w : Int32} (h : PtO f g n) (h4 : n < 6400) (hv : -2000000 ≤ v.toInt ∧ v.toInt ≤ 2000000) (hw : 1 ≤ w.toInt ∧ w.toInt ≤ 2000000) : PtO (upd f (nI n).toNatClampNeg v) (upd g (nI n).toNatClampNeg w) (n + 1) := fun q hq => by
  rw [upd_at (by omega), upd_at (by omega)]
  by_cases e : q = n
  · rw [if_pos e, if_pos e]; exact ⟨hv.1, hv.2, hw.1, hw.2⟩
  · rw [if_neg e, if_neg e]; exact h q (by omega)
theorem nIn {n : Nat} (h : n < 4000) : (nI n).toInt.toNat = n := by
  rw [nI_toInt (by omega)]; rfl
/-- a param is declared -/
theorem GlbR.param {f10 f11 f12 f13 f16 f17 f18 f19 f20 f21 f22 f23 f24 f25 f26 f27 g22 g23 : Nat → Int32} {nm se pa va nu x y pl o1 o2 n : Nat} {v w a1 a2 a3 : Int32} (h : GlbR f10 f11 f12 f13 f16 f17 f18 f19 f20 f21 f22 f23 f24 f25 f26 f27 nm se pa va nu) (hn : nm < 40) (e1 : v = nI x) (e2 : w = nI y) (hxy : x + y ≤ 4000) (h1 : a1 = nI pl) (h2 : a2 = nI o1) (h3 : a3 = nI o2) (hpl : pl ≤ 2 ∧ o1 < 44 ∧ o2 < 44) (hP : PlK se pl o1 o2) (hnn : n ≤ 144) (hMm : MemP f17 pl o1 o2 n) (hPt : PtO g22 g23 (nu + n)) :
    GlbR (upd f10 (nI nm).toNatClampNeg 2) (upd f11 (nI nm).toNatClampNeg v) (upd f12 (nI nm).toNatClampNeg w) (upd f13 (nI nm).toNatClampNeg (nI pa)) f16 f17 (upd f18 (nI pa).toNatClampNeg a1) (upd f19 (nI pa).toNatClampNeg a2) (upd f20 (nI pa).toNatClampNeg a3) (upd f21 (nI pa).toNatClampNeg (nI nu)) g22 g23 f24 f25 f26 f27 (nm + 1) se (pa + 1) va (nu + n) := by
  obtain ⟨⟨b1, b2, b3⟩, b4, b5, b6, b7, b8⟩ := h
  refine ⟨⟨by omega, by omega, by omega⟩, b4.push (by omega) e1 e2 hxy, b5.push (by omega) (Nat.le_refl _) (Nat.le_succ _) (Nat.le_refl _) rfl (by omega) (fun q => absurd q (by decide)) (fun _ => Nat.lt_succ_self _) (fun q => absurd q (by decide)), b6, hPt, fun a ha => ?_, fun a ha => ?_⟩
  · by_cases e : a = pa
    · subst e
      exact ⟨pl, o1, o2, nu, ⟨fun _ => u_at (by omega) h1, fun q => absurd q (by decide)⟩, ⟨fun _ => u_at (by omega) h2, fun _ => u_at (by omega) h3, fun _ => u_at (by omega) rfl, fun q => absurd q (by decide), fun q => absurd q (by decide), fun q => absurd q (by decide)⟩, ⟨by omega, by omega⟩, hpl, hP, ⟨fun _ => (by show a < (nI (a + 1)).toInt.toNat; rw [nIn (by omega)]; omega), fun q => absurd q (by decide)⟩, fun _ => (by show nu + memN f17 pl o1 o2 ≤ (nI (nu + n)).toInt.toNat; rw [nI_tn (by omega), ← hMm]; exact Nat.le_refl _)⟩
    · obtain ⟨pl, o1, o2, aT, b⟩ := b8.1 a (by omega)
      exact ⟨pl, o1, o2, aT, b.grow (Nat.le_refl _) (fun _ => ⟨u_ne (by omega) e, u_ne (by omega) e, u_ne (by omega) e, u_ne (by omega) e⟩) (fun _ => ⟨rfl, rfl, rfl, rfl⟩) (by show (nI pa).toInt.toNat ≤ (nI (pa + 1)).toInt.toNat; rw [nIn (by omega), nIn (by omega)]; omega) (Nat.le_refl _) (fun _ _ => rfl) (fun _ => by show (nI nu).toInt.toNat ≤ (nI (nu + n)).toInt.toNat; rw [nI_tn (by omega), nI_tn (by omega)]; omega)⟩
  · obtain ⟨pl, o1, o2, aT, b⟩ := b8.2 a ha
    exact ⟨pl, o1, o2, aT, b.grow (Nat.le_refl _) (fun q => absurd q (by decide)) (fun _ => ⟨rfl, rfl, rfl, rfl⟩) (by show (nI pa).toInt.toNat ≤ (nI (pa + 1)).toInt.toNat; rw [nIn (by omega), nIn (by omega)]; omega) (Nat.le_refl _) (fun _ _ => rfl) (fun _ => by show (nI nu).toInt.toNat ≤ (nI (nu + n)).toInt.toNat; rw [nI_tn (by omega), nI_tn (by omega)]; omega)⟩
/-- a variable is declared -/
theorem GlbR.var {f10 f11 f12 f13 f16 f17 f18 f19 f20 f21 f22 f23 f24 f25 f26 f27 : Nat → Int32} {nm se pa va nu x y pl o1 o2 vn : Nat} {v w a1 a2 a3 : Int32} (h : GlbR f10 f11 f12 f13 f16 f17 f18 f19 f20 f21 f22 f23 f24 f25 f26 f27 nm se pa va nu) (hn : nm < 40) (e1 : v = nI x) (e2 : w = nI y) (hxy : x + y ≤ 4000) (h1 : a1 = nI pl) (h2 : a2 = nI o1) (h3 : a3 = nI o2) (hpl : pl ≤ 2 ∧ o1 < 44 ∧ o2 < 44) (hP : PlK se pl o1 o2) (hvn : vn ≤ 8) :
    GlbR (upd f10 (nI nm).toNatClampNeg 3) (upd f11 (nI nm).toNatClampNeg v) (upd f12 (nI nm).toNatClampNeg w) (upd f13 (nI nm).toNatClampNeg (nI va)) f16 f17 f18 f19 f20 f21 f22 f23 (upd f24 (nI va).toNatClampNeg a1) (upd f25 (nI va).toNatClampNeg a2) (upd f26 (nI va).toNatClampNeg a3) (upd f27 (nI va).toNatClampNeg (nI vn)) (nm + 1) se pa (va + 1) nu := by
  obtain ⟨⟨b1, b2, b3⟩, b4, b5, b6, b7, b8⟩ := h
  refine ⟨⟨by omega, by omega, b3⟩, b4.push (by omega) e1 e2 hxy, b5.push (by omega) (Nat.le_refl _) (Nat.le_refl _) (Nat.le_succ _) rfl (by omega) (fun q => absurd q (by decide)) (fun q => absurd q (by decide)) (fun _ => Nat.lt_succ_self _), b6, b7, fun a ha => ?_, fun a ha => ?_⟩
  · obtain ⟨pl, o1, o2, aT, b⟩ := b8.1 a ha
    exact ⟨pl, o1, o2, aT, b.grow (Nat.le_refl _) (fun _ => ⟨rfl, rfl, rfl, rfl⟩) (fun q => absurd q (by decide)) (Nat.le_refl _) (by show (nI va).toInt.toNat ≤ (nI (va + 1)).toInt.toNat; rw [nIn (by omega), nIn (by omega)]; omega) (fun _ _ => rfl) (fun _ => Nat.le_refl _)⟩
  · by_cases e : a = va
    · subst e
      exact ⟨pl, o1, o2, vn, ⟨fun q => absurd q (by decide), fun _ => u_at (by omega) h1⟩, ⟨fun q => absurd q (by decide), fun q => absurd q (by decide), fun q => absurd q (by decide), fun _ => u_at (by omega) h2, fun _ => u_at (by omega) h3, fun _ => u_at (by omega) rfl⟩, ⟨by omega, by omega⟩, hpl, hP, ⟨fun q => absurd q (by decide), fun _ => (by show a < (nI (a + 1)).toInt.toNat; rw [nIn (by omega)]; omega)⟩, fun q => absurd q (by decide)⟩
    · obtain ⟨pl, o1, o2, aT, b⟩ := b8.2 a (by omega)
      exact ⟨pl, o1, o2, aT, b.grow (Nat.le_refl _) (fun q => absurd q (by decide)) (fun _ => ⟨u_ne (by omega) e, u_ne (by omega) e, u_ne (by omega) e, u_ne (by omega) e⟩) (Nat.le_refl _) (by show (nI va).toInt.toNat ≤ (nI (va + 1)).toInt.toNat; rw [nIn (by omega), nIn (by omega)]; omega) (fun _ _ => rfl) (fun _ => Nat.le_refl _)⟩

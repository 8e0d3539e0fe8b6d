theorem Ext.refl {gm bs : Nat} {G : RG} {f29 f30 f31 f32 f36 f37 f38 : Nat → Int32} (_ : Unit) : Ext gm bs G f29 f30 f31 f32 f36 f37 f38 G f29 f30 f31 f32 f36 f37 f38 := ⟨fun _ _ => ⟨rfl, rfl, rfl, rfl⟩, fun _ h => ⟨h, rfl, rfl⟩, fun _ _ h => h, fun _ _ => ⟨rfl, rfl, rfl⟩⟩
/-- a new node at nd -/
theorem Ext.node {gm bs nd : Nat} {G G' : RG} {f29 f30 f31 f32 f36 f37 f38 g29 g30 g31 g32 g36 g37 g38 : Nat → Int32} {kv av bv cv : Int32} (e : Ext gm bs G f29 f30 f31 f32 f36 f37 f38 G' g29 g30 g31 g32 g36 g37 g38) (hg : gm ≤ nd) (h4 : nd < 2 ^ 31) (hv : ∀ q, G.V q → q < nd) : Ext gm bs G f29 f30 f31 f32 f36 f37 f38 G' (upd g29 (nI nd).toNatClampNeg kv) (upd g30 (nI nd).toNatClampNeg av) (upd g31 (nI nd).toNatClampNeg bv) (upd g32 (nI nd).toNatClampNeg cv) g36 g37 g38 := by
  refine ⟨fun q hq => ?_, fun q hq => ?_, e.2.2.1, e.2.2.2⟩
  · rw [upd_at h4, if_neg (by omega), upd_at h4, if_neg (by omega), upd_at h4, if_neg (by omega), upd_at h4, if_neg (by omega)]
    exact e.1 q hq
  · have := hv q hq
    rw [upd_at h4, if_neg (by omega)]
    exact e.2.1 q hq
/-- a node is finished -/
theorem Ext.add {gm bs n w p : Nat} {b : Int32} {G G' : RG} {f29 f30 f31 f32 f36 f37 f38 g29 g30 g31 g32 g36 g37 g38 : Nat → Int32} (e : Ext gm bs G f29 f30 f31 f32 f36 f37 f38 G' g29 g30 g31 g32 g36 g37 g38) (hg : gm ≤ n) (hv : ¬ G.V n) : Ext gm bs G f29 f30 f31 f32 f36 f37 f38 (G'.add n w p b) g29 g30 g31 g32 g36 g37 g38 := by
  refine ⟨e.1, fun q hq => ?_, fun q hq h => ?_, e.2.2.2⟩
  · obtain ⟨h1, h2, h3⟩ := e.2.1 q hq
    exact ⟨Or.inr h1, h2, (if_neg (fun h : q = n => hv (h ▸ hq))).trans h3⟩
  · rcases h with h | h
    · omega
    · exact e.2.2.1 q hq h
/-- parts of a node under way -/
theorem Ext.b31 {gm bs n : Nat} {v : Int32} {G G' : RG} {f29 f30 f31 f32 f36 f37 f38 g29 g30 g31 g32 g36 g37 g38 : Nat → Int32} (e : Ext gm bs G f29 f30 f31 f32 f36 f37 f38 G' g29 g30 g31 g32 g36 g37 g38) (hg : gm ≤ n) (h4 : n < 2 ^ 31) : Ext gm bs G f29 f30 f31 f32 f36 f37 f38 G' g29 g30 (upd g31 (nI n).toNatClampNeg v) g32 g36 g37 g38 :=
  ⟨fun q hq => by rw [upd_at h4, if_neg (by omega)]; exact e.1 q hq, e.2⟩
theorem Ext.b32 {gm bs n : Nat} {v : Int32} {G G' : RG} {f29 f30 f31 f32 f36 f37 f38 g29 g30 g31 g32 g36 g37 g38 : Nat → Int32} (e : Ext gm bs G f29 f30 f31 f32 f36 f37 f38 G' g29 g30 g31 g32 g36 g37 g38) (hg : gm ≤ n) (h4 : n < 2 ^ 31) : Ext gm bs G f29 f30 f31 f32 f36 f37 f38 G' g29 g30 g31 (upd g32 (nI n).toNatClampNeg v) g36 g37 g38 :=
  ⟨fun q hq => by rw [upd_at h4, if_neg (by omega)]; exact e.1 q hq, e.2⟩
theorem Ext.b30 {gm bs n : Nat} {v : Int32} {G G' : RG} {f29 f30 f31 f32 f36 f37 f38 g29 g30 g31 g32 g36 g37 g38 : Nat → Int32} (e : Ext gm bs G f29 f30 f31 f32 f36 f37 f38 G' g29 g30 g31 g32 g36 g37 g38) (hg : gm ≤ n) (h4 : n < 2 ^ 31) : Ext gm bs G f29 f30 f31 f32 f36 f37 f38 G' g29 (upd g30 (nI n).toNatClampNeg v) g31 g32 g36 g37 g38 :=
  ⟨fun q hq => by rw [upd_at h4, if_neg (by omega)]; exact e.1 q hq, e.2⟩
theorem RdV.node {T : Nat → Nat → Int32} {G : RG} {f29 f30 f31 f32 f36 f37 f38 : Nat → Int32} {se nd bs : Nat} {kv av bv cv : Int32} (h : RdV T G f29 f30 f31 f32 f36 f37 f38 se nd bs) (h4 : nd < 2 ^ 31) : RdV T G (upd f29 (nI nd).toNatClampNeg kv) (upd f30 (nI nd).toNatClampNeg av) (upd f31 (nI nd).toNatClampNeg bv) (upd f32 (nI nd).toNatClampNeg cv) f36 f37 f38 se (nd + 1) bs :=
  h.keep (fun n hn => by (have := (h.2.1 n hn).1); rw [upd_at h4, if_neg (by omega), upd_at h4, if_neg (by omega), upd_at h4, if_neg (by omega), upd_at h4, if_neg (by omega)]; exact ⟨rfl, rfl, rfl, rfl⟩) (fun _ _ => ⟨rfl, rfl, rfl⟩) (Nat.le_succ _) (Nat.le_refl _)
theorem RdV.b31 {T : Nat → Nat → Int32} {G : RG} {f29 f30 f31 f32 f36 f37 f38 : Nat → Int32} {se nd bs n : Nat} {v : Int32} (h : RdV T G f29 f30 f31 f32 f36 f37 f38 se nd bs) (hv : ¬ G.V n) (h4 : n < 2 ^ 31) : RdV T G f29 f30 (upd f31 (nI n).toNatClampNeg v) f32 f36 f37 f38 se nd bs :=
  h.keep (fun q hq => by rw [upd_at h4, if_neg (fun e : q = n => hv (e ▸ hq))]; exact ⟨rfl, rfl, rfl, rfl⟩) (fun _ _ => ⟨rfl, rfl, rfl⟩) (Nat.le_refl _) (Nat.le_refl _)
theorem RdV.b32 {T : Nat → Nat → Int32} {G : RG} {f29 f30 f31 f32 f36 f37 f38 : Nat → Int32} {se nd bs n : Nat} {v : Int32} (h : RdV T G f29 f30 f31 f32 f36 f37 f38 se nd bs) (hv : ¬ G.V n) (h4 : n < 2 ^ 31) : RdV T G f29 f30 f31 (upd f32 (nI n).toNatClampNeg v) f36 f37 f38 se nd bs :=
  h.keep (fun q hq => by rw [upd_at h4, if_neg (fun e : q = n => hv (e ▸ hq))]; exact ⟨rfl, rfl, rfl, rfl⟩) (fun _ _ => ⟨rfl, rfl, rfl⟩) (Nat.le_refl _) (Nat.le_refl _)
theorem RdV.b30 {T : Nat → Nat → Int32} {G : RG} {f29 f30 f31 f32 f36 f37 f38 : Nat → Int32} {se nd bs n : Nat} {v : Int32} (h : RdV T G f29 f30 f31 f32 f36 f37 f38 se nd bs) (hv : ¬ G.V n) (h4 : n < 2 ^ 31) : RdV T G f29 (upd f30 (nI n).toNatClampNeg v) f31 f32 f36 f37 f38 se nd bs :=
  h.keep (fun q hq => by rw [upd_at h4, if_neg (fun e : q = n => hv (e ▸ hq))]; exact ⟨rfl, rfl, rfl, rfl⟩) (fun _ _ => ⟨rfl, rfl, rfl⟩) (Nat.le_refl _) (Nat.le_refl _)
/-- a frame ends: its value is the frame's below it -/
theorem RdS.pop {T : Nat → Nat → Int32} {G G' : RG} {f29 f30 f31 f32 f36 f37 f38 f39 f40 f41 f42 f48 g29 g30 g31 g32 g36 g37 g38 g39 g40 g41 g42 g48 : Nat → Int32} {wd sg : Int32} {se bs bs' r0 d nd' bd' fn' M' ek cw u pe un gl ex c : Nat} (hV : RdV T G' g29 g30 g31 g32 g36 g37 g38 se nd' bs') (hB : RBel T G f29 f30 f31 f32 f36 f37 f38 f39 f40 f41 f42 f48 se bs r0 d ek cw u pe un gl) (e : Ext gl bs G f29 f30 f31 f32 f36 f37 f38 G' g29 g30 g31 g32 g36 g37 g38) (hb : bs ≤ bs') (hr : ∀ q, q < d → g39 q = f39 q ∧ g40 q = f40 q ∧ g41 q = f41 q ∧ g42 q = f42 q ∧ g48 q = f48 q) (h25 : cw + ex ≤ 25) (hex : ek ≠ 3 → ex = 1) (hek : ek ≤ 3)
    (hc : (ek ≤ 1 ∧ LinO G' g29 c (51 - 2 * (cw + ex))) ∨ (2 ≤ ek ∧ TruO G' g29 c (51 - 2 * (cw + ex)))) (hn : nd' + pe ≤ fn') (hv : G'.vN + un ≤ nd') (h5 : 5 * bs' ≤ fn') (hbd : bd' ≤ 2 + 2 * u) (hgl : gl ≤ nd') (hM : 10 * (4000 - fn') + d ≤ M') :
    RdS T G' g29 g30 g31 g32 g36 g37 g38 g39 g40 g41 g42 g48 wd sg (nI c) se bs' r0 d cw nd' bd' fn' M' := by
  refine ⟨hV, ?_⟩
  match d, hB, hr, hM with
  | 0, hB, _, _ =>
    obtain ⟨rfl, rfl, rfl, rfl, rfl⟩ := hB
    refine Or.inl ⟨rfl, rfl, by omega, by omega, h5, by omega, c, rfl, ?_⟩
    rcases hc with hc | hc
    · exact Or.inl ⟨hc.1, hc.2.mono (by omega)⟩
    · exact Or.inr ⟨hc.1, hc.2.mono (by omega)⟩
  | d + 1, hB, hr, hM =>
    obtain ⟨ek', cw', u', pe', un', gl', ex', p1, n1, m1, ⟨a1, a2, a3⟩, a4, a5, ⟨rfl, rfl, rfl, rfl⟩, a7⟩ := hB
    obtain ⟨r1, r2, r3, r4, r5⟩ := hr d (Nat.lt_succ_self d)
    refine Or.inr ⟨d, ek', cw', u', pe', un', gl', gl, ex', p1, n1, m1, 1, rfl, ⟨r1.trans a1, a2, r5.trans a3⟩, RBel.congr hb d ek' cw' u' pe' un' gl' a5 (e.less a4.1.2.2.2) (fun q hq => hr q (by omega)), ⟨a7, rfl⟩, Or.inr ⟨rfl, ek, a4.mono e hb r2 r3 r4, c, rfl, ?_⟩, by omega, by omega, h5, by omega, hgl, by omega⟩
    rcases hc with hc | hc
    · have := hex (by omega)
      exact Or.inl ⟨hc.1, by omega, hc.2.mono (by omega)⟩
    · by_cases h3 : ek = 3
      · exact Or.inr (Or.inr ⟨h3, by omega, hc.2.mono (by omega)⟩)
      · have := hex h3
        exact Or.inr (Or.inl ⟨by omega, by omega, hc.2.mono (by omega)⟩)
/-- a frame has been begun at dp -/
def BgO (rv wd sg : Int32) (g39 g40 g41 g42 g48 : Nat → Int32) (dp wi d2 w2 : Nat) : Prop := ∃ ex, (ex ≤ 1 ∧ (rv ≠ 3 → ex = 1) ∧ (wd = 2 → sg = 10 → ex = 1)) ∧ (w2 = wi + ex ∧ w2 ≤ 25 ∧ d2 = dp + 1) ∧ g39 dp = rv ∧ g40 dp = 0 ∧ g41 dp = -1 ∧ g42 dp = -1 ∧ g48 dp = nI ex
def FrmO (dp : Nat) (f39 f40 f41 f42 f48 g39 g40 g41 g42 g48 : Nat → Int32) : Prop := ∀ q, q ≠ dp → g39 q = f39 q ∧ g40 q = f40 q ∧ g41 q = f41 q ∧ g42 q = f42 q ∧ g48 q = f48 q
theorem RdS.push {T : Nat → Nat → Int32} {G G' : RG} {f29 f30 f31 f32 f36 f37 f38 f39 f40 f41 f42 f48 g29 g30 g31 g32 g36 g37 g38 h39 h40 h41 h42 h48 g39 g40 g41 g42 g48 : Nat → Int32} {rv wd sg res : Int32} {se bs bs' r0 d de' wi' nd' bd' fn' M' ek ck cw u pe un gl gm ex p1 n1 m1 : Nat} (hV : RdV T G' g29 g30 g31 g32 g36 g37 g38 se nd' bs') (hB : RBel T G f29 f30 f31 f32 f36 f37 f38 f39 f40 f41 f42 f48 se bs r0 d ek cw u pe un gl) (e : Ext gl bs G f29 f30 f31 f32 f36 f37 f38 G' g29 g30 g31 g32 g36 g37 g38) (hb : bs ≤ bs') (hr : ∀ q, q < d → h39 q = f39 q ∧ h40 q = f40 q ∧ h41 q = f41 q ∧ h42 q = f42 q ∧ h48 q = f48 q) (h39' : h39 d = nI ek) (hek : ek ≤ 3) (h48' : h48 d = nI ex) (h25 : cw + ex ≤ 25)
    (hW : RWt T G' g29 g30 g31 g32 g36 g37 g38 h40 h41 h42 se bs' d ek ck (cw + ex) u ex gl gm p1 n1 m1) (hF : FrmO (d + 1) h39 h40 h41 h42 h48 g39 g40 g41 g42 g48) (hG : BgO rv wd sg g39 g40 g41 g42 g48 (d + 1) (cw + ex) de' wi') (hrv : rv = nI ck) (hck : ck ≤ 3)
    (hn : nd' + pe + p1 ≤ fn') (hv : G'.vN + un + n1 ≤ nd') (h5 : 5 * bs' ≤ fn') (hbd : bd' ≤ 2 + 2 * (u + m1)) (hgm : gm ≤ nd') (hM : 10 * (4000 - fn') + d + 1 + (if ck = 0 then 3 else if ck = 1 then 1 else if ck = 2 then 7 else 5) ≤ M') :
    RdS T G' g29 g30 g31 g32 g36 g37 g38 g39 g40 g41 g42 g48 wd sg res se bs' r0 de' wi' nd' bd' fn' M' := by
  obtain ⟨ex2, ⟨b1, b2, b3⟩, ⟨b4, b5, b6⟩, b7, b8, b9, b10, b11⟩ := hG
  have hne : ck ≠ 3 → rv ≠ 3 := fun h1 h2 => h1 (nIinj (by omega) (by decide) (hrv.symm.trans h2))
  obtain ⟨q1, q2, q3, q4, q5⟩ := hF d (by omega)
  refine ⟨hV, Or.inr ⟨d + 1, ck, cw + ex, u + m1, pe + p1, un + n1, gm, gm, ex2, 0, 0, 0, (if ck = 0 then 3 else if ck = 1 then 1 else if ck = 2 then 7 else 5), b6, ⟨b7.trans hrv, hck, b11⟩,
    ⟨ek, cw, u, pe, un, gl, ex, p1, n1, m1, ⟨q1.trans h39', hek, q5.trans h48'⟩, hW.mono (Ext.refl ()) (Nat.le_refl _) q2 q3 q4, RBel.congr hb d ek cw u pe un gl hB e (fun q hq => ?_), ⟨rfl, rfl, rfl, rfl⟩, h25⟩, ⟨by omega, by omega⟩,
    Or.inl ⟨b8, b9, b10, ⟨rfl, rfl, rfl, rfl⟩, ⟨b1, fun h => b2 (hne h)⟩, fun _ => b3, ?_⟩, by omega, by omega, h5, by omega, hgm, by omega⟩⟩
  · obtain ⟨q1, q2, q3, q4, q5⟩ := hF q (by omega)
    obtain ⟨r1, r2, r3, r4, r5⟩ := hr q hq
    exact ⟨q1.trans r1, q2.trans r2, q3.trans r3, q4.trans r4, q5.trans r5⟩
  · have h9 : ck = 0 ∨ ck = 1 ∨ ck = 2 ∨ ck = 3 := by omega
    rcases h9 with rfl | rfl | rfl | rfl
    · exact Or.inl ⟨rfl, rfl⟩
    · exact Or.inr (Or.inl ⟨rfl, rfl⟩)
    · exact Or.inr (Or.inr (Or.inl ⟨rfl, rfl⟩))
    · exact Or.inr (Or.inr (Or.inr ⟨rfl, rfl⟩))
/-- the first frame -/
theorem RdS.first {T : Nat → Nat → Int32} {G : RG} {f29 f30 f31 f32 f36 f37 f38 g39 g40 g41 g42 g48 : Nat → Int32} {rv wd sg res : Int32} {se bs r0 de' wi' nd bd fn M' : Nat} (hV : RdV T G f29 f30 f31 f32 f36 f37 f38 se nd bs) (hG : BgO rv wd sg g39 g40 g41 g42 g48 0 0 de' wi') (hrv : rv = nI r0) (hck : r0 ≤ 3) (hn : nd ≤ fn) (hv : G.vN ≤ nd) (h5 : 5 * bs ≤ fn) (hbd : bd ≤ 2) (hM : 10 * (4000 - fn) + 7 ≤ M') :
    RdS T G f29 f30 f31 f32 f36 f37 f38 g39 g40 g41 g42 g48 wd sg res se bs r0 de' wi' nd bd fn M' := by
  obtain ⟨ex2, ⟨b1, b2, b3⟩, ⟨b4, b5, b6⟩, b7, b8, b9, b10, b11⟩ := hG
  have hne : r0 ≠ 3 → rv ≠ 3 := fun h1 h2 => h1 (nIinj (by omega) (by decide) (hrv.symm.trans h2))
  have h9 : r0 = 0 ∨ r0 = 1 ∨ r0 = 2 ∨ r0 = 3 := by omega
  refine ⟨hV, Or.inr ⟨0, r0, 0, 0, 0, 0, 0, 0, ex2, 0, 0, 0, (if r0 = 0 then 3 else if r0 = 1 then 1 else if r0 = 2 then 7 else 5), b6, ⟨b7.trans hrv, hck, b11⟩, ⟨rfl, rfl, rfl, rfl, rfl⟩, ⟨by omega, by omega⟩,
    Or.inl ⟨b8, b9, b10, ⟨rfl, rfl, rfl, rfl⟩, ⟨b1, fun h => b2 (hne h)⟩, fun _ => b3, ?_⟩, by omega, by omega, h5, by omega, by omega, ?_⟩⟩
  · rcases h9 with rfl | rfl | rfl | rfl
    · exact Or.inl ⟨rfl, rfl⟩
    · exact Or.inr (Or.inl ⟨rfl, rfl⟩)
    · exact Or.inr (Or.inr (Or.inl ⟨rfl, rfl⟩))
    · exact Or.inr (Or.inr (Or.inr ⟨rfl, rfl⟩))
  · rcases h9 with rfl | rfl | rfl | rfl
    · show 10 * (4000 - fn) + 0 + 3 ≤ M'; omega
    · show 10 * (4000 - fn) + 0 + 1 ≤ M'; omega
    · show 10 * (4000 - fn) + 0 + 7 ≤ M'; omega
    · show 10 * (4000 - fn) + 0 + 5 ≤ M'; omega

section
/-! the law does not call thrown() -/
end
section
/-- the model's numbers are in their bounds, out of what a read leaves -/
theorem mdlB_of {F : Nat → Nat → Int32} {gn : Nat} (h1 : ∀ k, k < 9 → (-999 ≤ (F 56 k).toInt ∧ (F 56 k).toInt ≤ 999) ∧ -999 ≤ (F 57 k).toInt ∧ (F 57 k).toInt ≤ 999) (h2 : WnO (F 60)) (h3 : GoO (F 63) (F 64) gn) (h4 : ∀ k, k < 9 → -999 ≤ (F 70 k).toInt ∧ (F 70 k).toInt ≤ 999) : MdlB F gn := by
  refine ⟨fun k hk => (h1 k hk).1, fun k hk => (h1 k hk).2, h2.1, h2.2, fun g hg => ?_, fun g k hg hk => ?_, h4⟩
  · have h := h3 g 0 hg (by decide)
    rw [if_pos rfl, Nat.add_zero] at h
    exact ⟨⟨by omega, by omega⟩, by omega, by omega⟩
  · have h := h3 g (1 + k) hg (by omega)
    rw [if_neg (show ¬ (1 + k = 0) by omega), ← Nat.add_assoc] at h
    exact ⟨⟨by omega, by omega⟩, by omega, by omega⟩
/-- what holds of the reference between two calls (vn .. dO: its counts) -/
def InvR (vi : Nat → Int32) (vF : Nat → Nat → Int32) (mg : Nat → Int) (vn mr gq dn ar hn ru cl tp nd pn dO : Nat) : Prop :=
  Bg (vF 0) mg ∧ (vi 90 = nI vn ∧ vn ≤ 8 ∧ vi 91 = nI mr ∧ mr ≤ 12 ∧ vi 93 = nI gq ∧ gq ≤ 3 ∧ vi 92 = nI dn ∧ dn ≤ 8) ∧ (vi 150 = nI ar ∧ ar ≤ 40 ∧ vi 128 = nI hn ∧ hn ≤ 10 ∧ vi 129 = nI ru ∧ ru ≤ 12 ∧ vi 146 = nI cl ∧ cl ≤ 24) ∧ (vi 16 = nI tp ∧ tp ≤ 4000 ∧ vi 119 = nI nd ∧ nd ≤ 28 ∧ vi 125 = nI pn ∧ pn ≤ 30000 ∧ vi 74 = nI dO) ∧
  (MdlB vF gq ∧ WnO (vF 60) ∧ WmO (vF 59) mr ∧ (∀ k, k < vn → (vF 56 k).toInt ≤ (vF 57 k).toInt)) ∧ (NmO (vF 14) (vF 15) 60 ∧ EnO (vF 51)) ∧
  (ArO (vF 95) (vF 96) (vF 97) (vF 98) ar ∧ DoO (vF 78) hn ∧ RuO (vF 80) (vF 81) (vF 82) (vF 83) hn ru ∧ LmO (vi 145) ∧ Bo (vF 105)) ∧
  (AnsB mg 1020 ∧ AnsB mg 1000 ∧ (vi 113 ≠ 0 → AnsP mg 1000 gq) ∧ (vi 113 = 0 ∨ vi 113 = 1) ∧ (vi 117 ≠ 0 → 0 < mg 1051 ∧ 0 < mg 1052) ∧ (vi 117 = 0 ∨ vi 117 = 1))
theorem ArO.less {f95 f96 f97 f98 : Nat → Int32} {ar a2 : Nat} (h : ArO f95 f96 f97 f98 ar) (hh : a2 ≤ ar) : ArO f95 f96 f97 f98 a2 := fun a ha => h a (Nat.lt_of_lt_of_le ha hh)
theorem AnsB.keep {m m2 : Nat → Int} {b : Nat} (h : AnsB m b) (e : ∀ q, b ≤ q → q < b + 20 → m2 q = m q) : AnsB m2 b := by
  refine ⟨fun k hk => ?_, fun g hg => ⟨?_, ?_⟩⟩
  · rw [e _ (by omega) (by omega)]; exact h.1 k hk
  · rw [e _ (by omega) (by omega)]; exact (h.2 g hg).1
  · rw [e _ (by omega) (by omega)]; exact (h.2 g hg).2
theorem AnsP.keep {m m2 : Nat → Int} {b gq : Nat} (h : AnsP m b gq) (hg : gq ≤ 3) (e : ∀ q, b ≤ q → q < b + 20 → m2 q = m q) : AnsP m2 b gq := by
  refine ⟨?_, fun g hq => ?_⟩
  · rw [e _ (by omega) (by omega)]; exact h.1
  · rw [e _ (by omega) (by omega)]; exact h.2 g hq
theorem EndO.le {tp t2 : Nat} {nv : Int32} (h : EndO tp nv) (e : t2 = tp + (nv).toInt.natAbs) : t2 ≤ 4000 := by
  obtain ⟨h1, h2, h3⟩ := h
  omega
theorem RuO.hold {f80 f81 f82 f83 : Nat → Int32} {hn h2 ru : Nat} (h : RuO f80 f81 f82 f83 hn ru) (hh : hn ≤ h2) : RuO f80 f81 f82 f83 h2 ru := fun r hr => (h r hr).mono hh
end
section
def MdlA (f56 f57 f60 f63 f64 f70 : Nat → Int32) (gn : Nat) : Prop := MdlB (fun j => match j with
  | 56 => f56
  | 57 => f57
  | 60 => f60
  | 63 => f63
  | 64 => f64
  | _ => f70) gn
theorem mdlA_of {f56 f57 f60 f63 f64 f70 : Nat → Int32} {gn : Nat} (h1 : ∀ k, k < 9 → (-999 ≤ (f56 k).toInt ∧ (f56 k).toInt ≤ 999) ∧ -999 ≤ (f57 k).toInt ∧ (f57 k).toInt ≤ 999) (h2 : WnO f60) (h3 : GoO f63 f64 gn) (h4 : ∀ k, k < 9 → -999 ≤ (f70 k).toInt ∧ (f70 k).toInt ≤ 999) : MdlA f56 f57 f60 f63 f64 f70 gn := mdlB_of h1 h2 h3 h4
theorem InvR.of {vi : Nat → Int32} {vF : Nat → Nat → Int32} {mg : Nat → Int} {vn mr gq dn ar hn ru cl tp nd pn dO : Nat} {x145 x113 x117 : Int32} {f0 f56 f57 f60 f59 f63 f64 f70 f14 f15 f51 f95 f96 f97 f98 f78 f80 f81 f82 f83 f105 : Nat → Int32} (evn : vi 90 = nI vn) (emr : vi 91 = nI mr) (egq : vi 93 = nI gq) (edn : vi 92 = nI dn) (ear : vi 150 = nI ar) (ehn : vi 128 = nI hn) (eru : vi 129 = nI ru) (ecl : vi 146 = nI cl) (etp : vi 16 = nI tp) (end9 : vi 119 = nI nd) (epn : vi 125 = nI pn) (edO : vi 74 = nI dO) (e145 : vi 145 = x145) (e113 : vi 113 = x113) (e117 : vi 117 = x117) (eF0 : vF 0 = f0) (eF56 : vF 56 = f56) (eF57 : vF 57 = f57) (eF60 : vF 60 = f60) (eF59 : vF 59 = f59) (eF63 : vF 63 = f63) (eF64 : vF 64 = f64) (eF70 : vF 70 = f70) (eF14 : vF 14 = f14) (eF15 : vF 15 = f15) (eF51 : vF 51 = f51) (eF95 : vF 95 = f95) (eF96 : vF 96 = f96) (eF97 : vF 97 = f97) (eF98 : vF 98 = f98) (eF78 : vF 78 = f78) (eF80 : vF 80 = f80) (eF81 : vF 81 = f81) (eF82 : vF 82 = f82) (eF83 : vF 83 = f83) (eF105 : vF 105 = f105) (hB : Bg f0 mg) (c1 : vn ≤ 8 ∧ mr ≤ 12 ∧ gq ≤ 3 ∧ dn ≤ 8) (c2 : ar ≤ 40 ∧ hn ≤ 10 ∧ ru ≤ 12 ∧ cl ≤ 24) (c3 : tp ≤ 4000 ∧ nd ≤ 28 ∧ pn ≤ 30000) (m : MdlA f56 f57 f60 f63 f64 f70 gq ∧ WnO f60 ∧ WmO f59 mr ∧ ∀ k, k < vn → (f56 k).toInt ≤ (f57 k).toInt) (n : NmO f14 f15 60 ∧ EnO f51) (o : ArO f95 f96 f97 f98 ar ∧ DoO f78 hn ∧ RuO f80 f81 f82 f83 hn ru ∧ LmO x145 ∧ Bo f105) (z : AnsB mg 1020 ∧ AnsB mg 1000 ∧ (x113 ≠ 0 → AnsP mg 1000 gq) ∧ (x113 = 0 ∨ x113 = 1) ∧ (x117 ≠ 0 → 0 < mg 1051 ∧ 0 < mg 1052) ∧ (x117 = 0 ∨ x117 = 1)) : InvR vi vF mg vn mr gq dn ar hn ru cl tp nd pn dO := by
  subst e145 e113 e117 eF0 eF56 eF57 eF60 eF59 eF63 eF64 eF70 eF14 eF15 eF51 eF95 eF96 eF97 eF98 eF78 eF80 eF81 eF82 eF83 eF105
  exact ⟨hB, ⟨evn, c1.1, emr, c1.2.1, egq, c1.2.2.1, edn, c1.2.2.2⟩, ⟨ear, c2.1, ehn, c2.2.1, eru, c2.2.2.1, ecl, c2.2.2.2⟩, ⟨etp, c3.1, end9, c3.2.1, epn, c3.2.2, edO⟩, m, n, o, z⟩
/-- what is told of a state: letters on the tape, the three desks -/
abbrev TT := Nat × NtD × ClD × VlD
def TTo (T : TT) (tp ar cl hn ru : Nat) (f95 f96 f97 f98 f92 f93 f94 : Nat → Int32) : Prop := T = (tp, (((ar : Nat) : Int), f95, f96, f97, f98), (((cl : Nat) : Int), f92, f93, f94), ((hn : Nat) : Int), ((ru : Nat) : Int))
theorem TTo.of {tp ar cl hn ru : Nat} {f95 f96 f97 f98 f92 f93 f94 x95 x96 x97 x98 x92 x93 x94 : Nat → Int32} (e95 : x95 = f95) (e96 : x96 = f96) (e97 : x97 = f97) (e98 : x98 = f98) (e92 : x92 = f92) (e93 : x93 = f93) (e94 : x94 = f94) : TTo (tp, (((ar : Nat) : Int), f95, f96, f97, f98), (((cl : Nat) : Int), f92, f93, f94), ((hn : Nat) : Int), ((ru : Nat) : Int)) tp ar cl hn ru x95 x96 x97 x98 x92 x93 x94 := by
  subst e95 e96 e97 e98 e92 e93 e94
  rfl
theorem tt_t {a b : Nat} {x : NtD × ClD × VlD} (h : a = b) : ((a, x) : TT) = (b, x) := by rw [h]
theorem tt_n {tp : Nat} {d e : NtD} {c : ClD} {v : VlD} (h : d = e) : ((tp, d, c, v) : TT) = (tp, e, c, v) := by rw [h]
theorem tt_c {tp : Nat} {d : NtD} {c e : ClD} {v : VlD} (h : c = e) : ((tp, d, c, v) : TT) = (tp, d, e, v) := by rw [h]
theorem tt_v {tp : Nat} {d : NtD} {c : ClD} {a b x y : Int} (h1 : a = x) (h2 : b = y) : ((tp, d, c, a, b) : TT) = (tp, d, c, x, y) := by rw [h1, h2]
/-- the reference whole: T tells of its state, th is what was thrown last -/
def RefI (k : Nat → ClassId) (q : Nat) (T : TT) (th : Int32) (w : va_W) : Prop := ∃ (a : Nat → Nat) (vi : Nat → Int32) (vj : Nat → Int64) (vF : Nat → Nat → Int32) (vG : Nat → Nat → Int64) (mg : Nat → Int) (vn mr gq dn ar hn ru cl tp nd pn dO : Nat), InvR vi vF mg vn mr gq dn ar hn ru cl tp nd pn dO ∧ TTo T tp ar cl hn ru (vF 95) (vF 96) (vF 97) (vF 98) (vF 92) (vF 93) (vF 94) ∧ cVal (((cl : Nat) : Int), vF 92, vF 93, vF 94) ∧ th = vi 0 ∧ w = WR a k q vi vj vF vG
theorem RefI.val {k : Nat → ClassId} {q : Nat} {T : TT} {th : Int32} {w : va_W} (h : RefI k q T th w) : tVal T.2.1 := by
  obtain ⟨a, vi, vj, vF, vG, mg, vn, mr, gq, dn, ar, hn, ru, cl, tp, nd, pn, dO, hI, hTT, _, _, _⟩ := h
  unfold TTo at hTT
  subst hTT
  obtain ⟨hBg, ⟨h90, bvn, h91, bmr, h93, bgq, h92, bdn⟩, ⟨h150, bar, h128, bhn, h129, bru, h146, bcl⟩, ⟨h16, btp, h119, bnd, h125, bpn, h74⟩, ⟨hMd, hWn, hWm, hLH⟩, ⟨hNm, hEn⟩, ⟨hAr, hDo, hRu, hLm, hBo⟩, hB2, hB1, hAP, b113, hPp, b117⟩ := hI
  exact ArO.val hAr
theorem RefI.aro {k : Nat → ClassId} {q : Nat} {T : TT} {th : Int32} {w : va_W} (h : RefI k q T th w) : ArO T.2.1.2.1 T.2.1.2.2.1 T.2.1.2.2.2.1 T.2.1.2.2.2.2 T.2.1.1.toNat := by
  obtain ⟨a, vi, vj, vF, vG, mg, vn, mr, gq, dn, ar, hn, ru, cl, tp, nd, pn, dO, hI, hTT, _, _, _⟩ := h
  unfold TTo at hTT
  subst hTT
  obtain ⟨hBg, ⟨h90, bvn, h91, bmr, h93, bgq, h92, bdn⟩, ⟨h150, bar, h128, bhn, h129, bru, h146, bcl⟩, ⟨h16, btp, h119, bnd, h125, bpn, h74⟩, ⟨hMd, hWn, hWm, hLH⟩, ⟨hNm, hEn⟩, ⟨hAr, hDo, hRu, hLm, hBo⟩, hB2, hB1, hAP, b113, hPp, b117⟩ := hI
  exact hAr
theorem RefI.rm {k : Nat → ClassId} {q : Nat} {T : TT} {th : Int32} {w : va_W} (h : RefI k q T th w) : tRm T.2.1 := by
  obtain ⟨a, vi, vj, vF, vG, mg, vn, mr, gq, dn, ar, hn, ru, cl, tp, nd, pn, dO, hI, hTT, _, _, _⟩ := h
  unfold TTo at hTT
  subst hTT
  obtain ⟨hBg, ⟨h90, bvn, h91, bmr, h93, bgq, h92, bdn⟩, ⟨h150, bar, h128, bhn, h129, bru, h146, bcl⟩, ⟨h16, btp, h119, bnd, h125, bpn, h74⟩, ⟨hMd, hWn, hWm, hLH⟩, ⟨hNm, hEn⟩, ⟨hAr, hDo, hRu, hLm, hBo⟩, hB2, hB1, hAP, b113, hPp, b117⟩ := hI
  exact ArO.rm hAr
theorem RefI.cval {k : Nat → ClassId} {q : Nat} {T : TT} {th : Int32} {w : va_W} (h : RefI k q T th w) : cVal T.2.2.1 := by
  obtain ⟨a, vi, vj, vF, vG, mg, vn, mr, gq, dn, ar, hn, ru, cl, tp, nd, pn, dO, hI, hTT, hCv, _, _⟩ := h
  unfold TTo at hTT
  subst hTT
  exact hCv
end

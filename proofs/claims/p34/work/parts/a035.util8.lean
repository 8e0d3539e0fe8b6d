theorem W.cut {p : Program} {l : Launch} {e : Env} {R : Room} {s : State} {m : MethodId} {args : Array Value} {below : List Frame} {meth : Method} {c : Code} {H0 : Heap} {locs0 : List Loc} {n1 n2 : Nat} {Q : State → Prop} {g0 : JFrame} {pc : Nat} (Pre : Heap → List Loc → Array Slot → List Value → Prop)
    (h1 : (∀ H locs ls stk, Pre H locs ls stk → W p l e R s m args below meth c H locs n1 n2 Q (F0 m pc ls stk)) → W p l e R s m args below meth c H0 locs0 n1 n2 Q g0) (h2 : ∀ H locs ls stk, Pre H locs ls stk → W p l e R s m args below meth c H locs n1 n2 Q (F0 m pc ls stk)) : W p l e R s m args below meth c H0 locs0 n1 n2 Q g0 := h1 h2
theorem Met.monoV {l : Launch} {y : MethodName} {ws : List Cond} {rm : Room} {Pc : Array Value → State → Prop} {mc ms : Nat} {fr : Addr → Prop} {S : Type} {φ ψ : S → Prop} {B : S → State → Prop} {A : Nat → Prop} (h : Met l y ws rm Pc (va_Qv φ B A) mc ms fr) (hm : ∀ u, φ u → ψ u) : Met l y ws rm Pc (va_Qv ψ B A) mc ms fr := by
  intro p e h1 h2 h3 s m args below hf ha hP hK
  obtain ⟨n, o, q1, q2, q3, ⟨⟨u, q4, q5, q6⟩, q7⟩, q8⟩ := h p e h1 h2 h3 s m args below hf ha hP hK
  exact ⟨n, o, q1, q2, q3, ⟨⟨u, q4, hm u q5, q6⟩, q7⟩, q8⟩
theorem Met.monoI {l : Launch} {y : MethodName} {ws : List Cond} {rm : Room} {Pc : Array Value → State → Prop} {mc ms : Nat} {fr : Addr → Prop} {S : Type} {φ ψ : Int32 → S → Prop} {B : S → State → Prop} {A : Nat → Prop} (h : Met l y ws rm Pc (va_Qi φ B A) mc ms fr) (hm : ∀ r u, φ r u → ψ r u) : Met l y ws rm Pc (va_Qi ψ B A) mc ms fr := by
  intro p e h1 h2 h3 s m args below hf ha hP hK
  obtain ⟨n, o, q1, q2, q3, ⟨⟨r, u, q4, q5, q6⟩, q7⟩, q8⟩ := h p e h1 h2 h3 s m args below hf ha hP hK
  exact ⟨n, o, q1, q2, q3, ⟨⟨r, u, q4, hm r u q5, q6⟩, q7⟩, q8⟩
theorem Met.monoL {l : Launch} {y : MethodName} {ws : List Cond} {rm : Room} {Pc : Array Value → State → Prop} {mc ms : Nat} {fr : Addr → Prop} {S : Type} {φ ψ : Int64 → S → Prop} {B : S → State → Prop} {A : Nat → Prop} (h : Met l y ws rm Pc (va_Ql φ B A) mc ms fr) (hm : ∀ r u, φ r u → ψ r u) : Met l y ws rm Pc (va_Ql ψ B A) mc ms fr := by
  intro p e h1 h2 h3 s m args below hf ha hP hK
  obtain ⟨n, o, q1, q2, q3, ⟨⟨r, u, q4, q5, q6⟩, q7⟩, q8⟩ := h p e h1 h2 h3 s m args below hf ha hP hK
  exact ⟨n, o, q1, q2, q3, ⟨⟨r, u, q4, hm r u q5, q6⟩, q7⟩, q8⟩
/-- the slots of big hold the whole numbers m -/
def Bg (f : Nat → Int32) (m : Nat → Int) : Prop := ∀ s, s < 1100 → Nu f s (m s)
theorem Bg.set {f g : Nat → Int32} {m : Nat → Int} {sn : Nat} {x : Int} (h : Bg f m) (hn : Nu g sn x) (ho : ∀ q, (q < 24 * sn ∨ 24 * sn + 24 ≤ q) → g q = f q) : Bg g (fT m sn x) := fun s hs => by
  by_cases e : s = sn
  · subst e; rw [fT_eq]; exact hn
  · rw [fT_ne _ _ e]; exact (h s hs).keep (fun q h1 h2 => ho q (by omega))
theorem Bg.set2 {f g : Nat → Int32} {m : Nat → Int} {sn rn : Nat} {x y : Int} (h : Bg f m) (hn : Nu g sn x) (hr : Nu g rn y) (hne : sn ≠ rn) (ho : ∀ q, (q < 24 * sn ∨ 24 * sn + 24 ≤ q) → (q < 24 * rn ∨ 24 * rn + 24 ≤ q) → g q = f q) : Bg g (fT (fT m sn x) rn y) := fun s hs => by
  by_cases e : s = rn
  · subst e; rw [fT_eq]; exact hr
  · rw [fT_ne _ _ e]
    by_cases e2 : s = sn
    · subst e2; rw [fT_eq]; exact hn
    · rw [fT_ne _ _ e2]; exact (h s hs).keep (fun q h1 h2 => ho q (by omega) (by omega))
theorem Bg.turn {f : Nat → Int32} {m : Nat → Int} {sn : Nat} (h : Bg f m) (hs : sn < 1100) : Bg (upd f (nI (24 * sn)).toNatClampNeg (-(f (24 * sn)))) (fT m sn (-(m sn))) := by
  have ho : ∀ q, q ≠ 24 * sn → upd f (nI (24 * sn)).toNatClampNeg (-(f (24 * sn))) q = f q := fun q hq => by rw [upd_at (by omega), if_neg hq]
  refine Bg.set h ?_ (fun q hq => ho q (by omega))
  obtain ⟨n, n1, n2, n3, n4, n5, n6⟩ := h sn hs
  refine ⟨n, n1, by rw [ho _ (by omega)]; exact n2, fun q hq => by rw [ho _ (by omega)]; exact n3 q hq, fun h9 => by rw [ho _ (by omega)]; exact n4 h9, ?_, ?_⟩
  · rw [Int.natAbs_neg, n5]; exact lv28_congr (fun q hq => (ho _ (by omega)).symm)
  · rw [upd_at (by omega), if_pos rfl]
    rcases n6 with ⟨e1, e2⟩ | ⟨e1, e2⟩ | ⟨e1, e2⟩
    · exact Or.inl ⟨by omega, by rw [e2]; decide⟩
    · exact Or.inr (Or.inr ⟨by omega, by rw [e2]⟩)
    · exact Or.inr (Or.inl ⟨by omega, by rw [e2]; decide⟩)
theorem Bg.sgn {f : Nat → Int32} {m : Nat → Int} {sn : Nat} (h : Bg f m) (hs : sn < 1100) : (m sn = 0 ∧ (f (24 * sn)).toInt = 0) ∨ (0 < m sn ∧ (f (24 * sn)).toInt = 1) ∨ (m sn < 0 ∧ (f (24 * sn)).toInt = -1) := by
  obtain ⟨n, n1, n2, n3, n4, n5, n6⟩ := h sn hs
  exact sgT n6
theorem Bg.len {f : Nat → Int32} {m : Nat → Int} {sn : Nat} (h : Bg f m) (hs : sn < 1100) : ∃ n, f (24 * sn + 1) = nI n ∧ n ≤ 22 := by
  obtain ⟨n, n1, n2, n3, n4, n5, n6⟩ := h sn hs
  exact ⟨n, n2, n1⟩

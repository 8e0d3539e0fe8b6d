/-! rows that grow -/
theorem Met.sV {l : Launch} {y : MethodName} {ws : List Cond} {rm : Room} {av : List Value} {P0 : State → Prop} {mc ms : Nat} {fr : Addr → Prop} {S : Type} {φ : S → Prop} {B : S → State → Prop} {A : Nat → Prop} (h : Met l y ws rm (va_Pc av P0) (va_Qv φ B A) mc ms fr) (H0 : Heap) : Met l y ws rm (va_Pc av (fun U => U.heap = H0 ∧ P0 U)) (va_Qv φ (fun u t => B u t ∧ SzK H0 t.heap) A) mc ms fr := by
  intro p e h1 h2 h3 s m args below hf ha hP hK
  obtain ⟨n, o, q1, q2, q3, ⟨⟨u, q4, q5, q6⟩, q7⟩, q8⟩ := h p e h1 h2 h3 s m args below hf ha ⟨hP.1, hP.2.2⟩ hK
  obtain ⟨L, q9, _⟩ := id q8
  exact ⟨n, o, q1, q2, q3, ⟨⟨u, q4, q5, q6, by rw [← hP.2.1]; exact SzK.of q9⟩, q7⟩, q8⟩
theorem Met.sI {l : Launch} {y : MethodName} {ws : List Cond} {rm : Room} {av : List Value} {P0 : State → Prop} {mc ms : Nat} {fr : Addr → Prop} {S : Type} {φ : Int32 → S → Prop} {B : S → State → Prop} {A : Nat → Prop} (h : Met l y ws rm (va_Pc av P0) (va_Qi φ B A) mc ms fr) (H0 : Heap) : Met l y ws rm (va_Pc av (fun U => U.heap = H0 ∧ P0 U)) (va_Qi φ (fun u t => B u t ∧ SzK H0 t.heap) A) mc ms fr := by
  intro p e h1 h2 h3 s m args below hf ha hP hK
  obtain ⟨n, o, q1, q2, q3, ⟨⟨r, u, q4, q5, q6⟩, q7⟩, q8⟩ := h p e h1 h2 h3 s m args below hf ha ⟨hP.1, hP.2.2⟩ hK
  obtain ⟨L, q9, _⟩ := id q8
  exact ⟨n, o, q1, q2, q3, ⟨⟨r, u, q4, q5, q6, by rw [← hP.2.1]; exact SzK.of q9⟩, q7⟩, q8⟩
theorem vx_Met.sV {l : Launch} {y : MethodName} {ws : List Cond} {rm : Room} {av : List Value} {P0 : State → Prop} {XC : String → State → State → Prop} {mc ms : Nat} {fr : Addr → Prop} {S : Type} {φ : S → Prop} {B : S → State → Prop} {A : Nat → Prop} (h : vx_Met l y ws rm (va_Pc av P0) (va_Qv φ B A) XC mc ms fr) (H0 : Heap) : vx_Met l y ws rm (va_Pc av (fun U => U.heap = H0 ∧ P0 U)) (va_Qv φ (fun u t => B u t ∧ SzK H0 t.heap) A) XC mc ms fr := by
  intro p e h1 h2 h3 s m args below hf ha hP hK
  obtain ⟨n, o, q1, q2, q3, q4⟩ := h p e h1 h2 h3 s m args below hf ha ⟨hP.1, hP.2.2⟩ hK
  refine ⟨n, o, q1, q2, q3, ?_⟩
  rcases q4 with ⟨⟨⟨u, q4, q5, q6⟩, q7⟩, q8⟩ | q4
  · obtain ⟨L, q9, _⟩ := id q8
    exact Or.inl ⟨⟨⟨u, q4, q5, q6, by rw [← hP.2.1]; exact SzK.of q9⟩, q7⟩, q8⟩
  · exact Or.inr q4
theorem va_K.cls {D : va_G} {cl : List vw_C} {tys : List (ClassId × FieldType)} {U : State} (h : va_K D cl tys U) {i j : Nat} {a b : ClassId} {ty : FieldType} (hi : tys[i]? = some (a, ty)) (hj : tys[j]? = some (b, ty)) (hp : ty = .int ∨ ty = .byte ∨ ty = .long) : b = a := by
  have r1 := (h.2 i _ hi).2
  have r2 := (h.2 j _ hj).2
  rcases hp with rfl | rfl | rfl
  · exact Option.some.inj ((show U.vm.findClass _ = some b from r2).symm.trans r1)
  · exact Option.some.inj ((show U.vm.findClass _ = some b from r2).symm.trans r1)
  · exact Option.some.inj ((show U.vm.findClass _ = some b from r2).symm.trans r1)
theorem fits_b {x : Int32} (h : -128 ≤ x.toInt ∧ x.toInt ≤ 127) : fits .byte (.int x) = true := by
  show (decide (-128 ≤ x) && decide (x ≤ 127)) = true
  rw [Bool.and_eq_true, decide_eq_true_iff, decide_eq_true_iff, Int32.le_iff_toInt_le, Int32.le_iff_toInt_le]
  exact h
theorem clampN {x : Int32} {X : Int} {k : Nat} (hx : x.toInt = X) (hk : (k : Int) = X) : x.toNatClampNeg = k := by
  show x.toInt.toNat = k
  omega
theorem SzK.n {n : Nat} {H H1 : Heap} (h : SzK H H1) (hn : n ≤ H.size) : nS n H1 = nS n H + nS H.size H1 := nS_split (k := 0) h hn
theorem nar_b (x : Int32) : -128 ≤ (vp_nar FieldType.byte x).toInt ∧ (vp_nar FieldType.byte x).toInt ≤ 127 := by
  show -128 ≤ (x.toInt8.toInt32).toInt ∧ (x.toInt8.toInt32).toInt ≤ 127
  rw [Int8.toInt_toInt32]
  exact ⟨Int8.le_toInt _, by have := Int8.toInt_lt (x.toInt8); omega⟩
theorem updb_r {f : Nat → Int32} (h : ∀ q : Nat, -128 ≤ (f q).toInt ∧ (f q).toInt ≤ 127) {x : Int32} {n : Nat} : ∀ q : Nat, -128 ≤ (upd f n (vp_nar FieldType.byte x) q).toInt ∧ (upd f n (vp_nar FieldType.byte x) q).toInt ≤ 127 := upd_r h (nar_b x)
theorem tg1 {h s c c0 : Nat} (h1 : h + c0 ≤ s + c) (h2 : s ≤ h) : h ≤ s + (c - c0) := by omega
theorem tg2 {n c c0 : Nat} (h : n + c0 ≤ c) : n ≤ c - c0 := by omega

theorem toI_eq {x y : Int32} {X Y : Int} (h : x = y) (hx : x.toInt = X) (hy : y.toInt = Y) : X = Y := by subst hx; subst hy; rw [h]
theorem toI_neq {x y : Int32} {X Y : Int} (h : ¬ x = y) (hx : x.toInt = X) (hy : y.toInt = Y) : ¬ X = Y := by subst hx; subst hy; exact fun e => h (Int32.toInt_inj.mp e)
theorem toI_ne {x y : Int32} {X Y : Int} (h : ¬ x = y) (hx : x.toInt = X) (hy : y.toInt = Y) : X ≠ Y := toI_neq h hx hy
theorem toI_nne {x y : Int32} {X Y : Int} (h : x = y) (hx : x.toInt = X) (hy : y.toInt = Y) : X = Y := toI_eq h hx hy
theorem toI_lt {x y : Int32} {X Y : Int} (h : x < y) (hx : x.toInt = X) (hy : y.toInt = Y) : X < Y := by subst hx; subst hy; exact Int32.lt_iff_toInt_lt.mp h
theorem toI_nlt {x y : Int32} {X Y : Int} (h : ¬ x < y) (hx : x.toInt = X) (hy : y.toInt = Y) : ¬ X < Y := by subst hx; subst hy; exact fun e => h (Int32.lt_iff_toInt_lt.mpr e)
theorem toI_le {x y : Int32} {X Y : Int} (h : x ≤ y) (hx : x.toInt = X) (hy : y.toInt = Y) : X ≤ Y := by subst hx; subst hy; exact Int32.le_iff_toInt_le.mp h
theorem toI_nle {x y : Int32} {X Y : Int} (h : ¬ x ≤ y) (hx : x.toInt = X) (hy : y.toInt = Y) : ¬ X ≤ Y := by subst hx; subst hy; exact fun e => h (Int32.le_iff_toInt_le.mpr e)
theorem toI_ge {x y : Int32} {X Y : Int} (h : y ≤ x) (hx : x.toInt = X) (hy : y.toInt = Y) : X ≥ Y := toI_le h hy hx
theorem toI_nge {x y : Int32} {X Y : Int} (h : ¬ y ≤ x) (hx : x.toInt = X) (hy : y.toInt = Y) : ¬ X ≥ Y := toI_nle h hy hx
theorem toI_gt {x y : Int32} {X Y : Int} (h : y < x) (hx : x.toInt = X) (hy : y.toInt = Y) : X > Y := toI_lt h hy hx
theorem toI_ngt {x y : Int32} {X Y : Int} (h : ¬ y < x) (hx : x.toInt = X) (hy : y.toInt = Y) : ¬ X > Y := toI_nlt h hy hx
theorem of_toInt {x : Int32} {k : Nat} (h0 : 0 ≤ x.toInt) (h1 : x.toInt < (k : Int)) : ∃ j : Nat, j < k ∧ x = nI j := by
  obtain ⟨j, hj, e⟩ := nI_of (x := x) (fun h => by have := toI_lt h rfl (show (0 : Int32).toInt = 0 by decide); omega)
  refine ⟨j, ?_, e⟩
  rw [e, nI_toInt hj] at h1
  omega
theorem ofWC {l : Launch} {y : MethodName} {ws ws' : List Cond} {rm : Room} {Pc : Array Value → State → Prop} {Qc : Array Value → State → Outcome → State → Prop} {mc ms : Nat} {free : Addr → Prop} {cc : ByteArray} {maxL : Nat} {ret : Option FieldType} {hh : List (Nat × Nat × Nat × Nat)}
    (hy : plainName y.cls = true) (hw : ws = Cond.codeWith y cc maxL ret hh :: ws')
    (body : ∀ p e s m args below meth c s₁, BodyLoose p l y (headSpec ws rm) cc maxL ret e s m args below meth c s₁ → c.maxLocals = maxL → Pc args s →
      W p l e (headSpec ws rm).room s m args below meth c s.heap [] 0 0 (MQ below Qc args s mc ms free) (entryFrame m args maxL)) : Met l y ws rm Pc Qc mc ms free := by
  refine MetFree.of_bodyS (code := cc) (maxLocals := maxL) (ret := ret) hy ?_ ?_
  · intro args s m h hn
    obtain ⟨m9, meth, c, hn9, h1, h2, h3, h4, -, h5, h6, -⟩ := Cond.codeWith_spec (atoms_spec (ws := ws) h _ (by rw [hw]; exact List.mem_cons_self))
    cases hn.symm.trans hn9
    exact ⟨meth, c, h1, h2, h3, h4, h5, h6⟩
  · intro p e s m args below meth c s₁ B hml hP _
    have hh0 : s₁.heap = s.heap := by rw [B.state]; rfl
    obtain ⟨t, a1, o, b1, b2, b3⟩ := body p e s m args below meth c s₁ B hml hP s₁ hh0 (Stand.of_body B)
    exact ⟨t, o, a1, b1, b2, ⟨b3.1, b3.2⟩⟩
theorem nilP {D : va_G} {cl : List vw_C} {H : Heap} : va_P D cl [] H := fun k q h => by simp at h
theorem nilD {A : Nat → Prop} : va_D A [] := ⟨fun i j p q h => by simp at h, fun k q h => by simp at h⟩
theorem upd_at {f : Nat → Int32} {i : Nat} {x : Int32} (hi : i < 2 ^ 31) (j : Nat) : upd f (nI i).toNatClampNeg x j = if j = i then x else f j := by
  rw [nI_clamp hi]
  by_cases e : j = i
  · rw [e]; simp [pk_us]
  · rw [pk_un e]; simp [e]

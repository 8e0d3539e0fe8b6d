/-! contracts put to another use: other words, more room, another start and end -/
theorem hs_sub {ws ws' : List Cond} (h : ∀ w ∈ ws, w ∈ ws') {rm rm' : Room} (a : Array Value) (s : State) (hb : (headSpec ws' rm').pre.before a s = true) : (headSpec ws rm).pre.before a s = true :=
  atoms_intro fun w hw => atoms_spec (ws := ws') hb w (h w hw)
theorem room_le {s : State} {pl : Platform} {r r' : Room} (hf : r.frames ≤ r'.frames) (hl : r.locals ≤ r'.locals) (hc : r.cells ≤ r'.cells) (hs : r.slots ≤ r'.slots) (h : s.hasRoom pl r' = true) : s.hasRoom pl r = true := by
  simp only [State.hasRoom, Bool.and_eq_true, decide_eq_true_eq] at h ⊢
  obtain ⟨⟨⟨⟨h1, h2, h3, h4, h5, h6⟩, h7⟩, h8⟩, h9⟩ := h
  exact ⟨⟨⟨⟨by omega, by omega, by omega, by omega, by omega, h6⟩, by omega⟩, by omega⟩, h9⟩
theorem mf_spec {l : Launch} {x : MethodName} {S S' : Spec} {P : Array Value → State → Prop} {K : Program → Env → List Frame → State → Array Value → Prop} {Q : Array Value → State → Outcome → State → Prop}
    (h : MetFree l x S P K Q) (hpre : ∀ a s, S'.pre.before a s = true → S.pre.before a s = true) (hf : S.room.frames ≤ S'.room.frames) (hl : S.room.locals ≤ S'.room.locals) (hc : S.room.cells ≤ S'.room.cells) (hs : S.room.slots ≤ S'.room.slots) : MetFree l x S' P K Q := by
  intro p e ha hcs hk s m args below hfr happ hP hK
  obtain ⟨a1, a2, a3, a4, a5, a6, a7, a8⟩ := (Spec.appliesLoose_iff hfr).mp happ
  exact h p e ha hcs hk s m args below hfr ((Spec.appliesLoose_iff hfr).mpr ⟨a1, a2, a3, a4, a5, a6, room_le hf hl hc hs a7, hpre _ _ a8⟩) hP hK
def rmLe (a b : Room) : Prop := a.frames ≤ b.frames ∧ a.locals ≤ b.locals ∧ a.cells ≤ b.cells ∧ a.slots ≤ b.slots
/-- what came to the heap, by the frame of a call -/
theorem fe_sz {st t : State} {o : Outcome} {L : List Loc} {mc ms : Nat} (h : FrameEnd st o t L mc ms) : t.heap.size ≤ st.heap.size + mc ∧ nS st.heap.size t.heap ≤ ms := ⟨h.2.2.2.2.1, by unfold nS; exact h.2.2.2.2.2.2.1⟩
theorem Met.ad {l : Launch} {y : MethodName} {ws ws' : List Cond} {rm rm' : Room} {Pc Pc' : Array Value → State → Prop} {Qc Qc' : Array Value → State → Outcome → State → Prop} {mc ms mc' ms' : Nat} {fr fr' : Addr → Prop} (h : Met l y ws rm Pc Qc mc ms fr) (hw : ∀ w ∈ ws, w ∈ ws') (hr : rmLe rm rm') (hmc : mc ≤ mc') (hms : ms ≤ ms')
    (hP : ∀ a U, Pc' a U → Pc a U) (hQ : ∀ a st o t, Pc' a st → st.vm.Alike t.vm → t.heap.size ≤ st.heap.size + mc → nS st.heap.size t.heap ≤ ms → Qc a st o t → Qc' a st o t) (hf : ∀ q, fr q → fr' q) : Met l y ws' rm' Pc' Qc' mc' ms' fr' := by
  intro p e h1 h2 h3 s m args below hfr happ hPa hK
  obtain ⟨n, o, q1, q2, q3, q4, L, q5, q6⟩ := mf_spec (S' := headSpec ws' rm') h (hs_sub hw) hr.1 hr.2.1 hr.2.2.1 hr.2.2.2 p e h1 h2 h3 s m args below hfr happ (hP _ _ hPa) hK
  exact ⟨n, o, q1, q2, q3, hQ _ _ _ _ hPa q5.2.1.alike (fe_sz q5).1 (fe_sz q5).2 q4, L, ⟨q5.1, q5.2.1, q5.2.2.mono hmc hms⟩, fun q hq => hf _ (q6 q hq)⟩
theorem vx_Met.ad {l : Launch} {y : MethodName} {ws ws' : List Cond} {rm rm' : Room} {Pc Pc' : Array Value → State → Prop} {Qc Qc' : Array Value → State → Outcome → State → Prop} {XC XC' : String → State → State → Prop} {mc ms mc' ms' : Nat} {fr fr' : Addr → Prop} (h : vx_Met l y ws rm Pc Qc XC mc ms fr) (hw : ∀ w ∈ ws, w ∈ ws') (hr : rmLe rm rm') (hmc : mc ≤ mc') (hms : ms ≤ ms')
    (hP : ∀ a U, Pc' a U → Pc a U) (hQ : ∀ a st o t, Pc' a st → st.vm.Alike t.vm → t.heap.size ≤ st.heap.size + mc → nS st.heap.size t.heap ≤ ms → Qc a st o t → Qc' a st o t)
    (hX : ∀ a E st t, Pc' a st → st.vm.Alike t.vm → t.heap.size ≤ st.heap.size + mc → nS st.heap.size t.heap ≤ ms → XC E st t → XC' E st t) (hf : ∀ q, fr q → fr' q) : vx_Met l y ws' rm' Pc' Qc' XC' mc' ms' fr' := by
  intro p e h1 h2 h3 s m args below hfr happ hPa hK
  obtain ⟨n, o, q1, q2, q3, q4⟩ := mf_spec (S' := headSpec ws' rm') h (hs_sub hw) hr.1 hr.2.1 hr.2.2.1 hr.2.2.2 p e h1 h2 h3 s m args below hfr happ (hP _ _ hPa) hK
  refine ⟨n, o, q1, q2, q3, ?_⟩
  rcases q4 with ⟨q4, L, q5, q6⟩ | ⟨q, q4, E, ce, L, r1, r2, r3, r4, r5, r6, r7⟩
  · exact Or.inl ⟨hQ _ _ _ _ hPa q5.2.1.alike (fe_sz q5).1 (fe_sz q5).2 q4, L, ⟨q5.1, q5.2.1, q5.2.2.mono hmc hms⟩, fun q hq => hf _ (q6 q hq)⟩
  · exact Or.inr ⟨q, q4, E, ce, L, hX _ _ _ _ hPa r5.alike r6.2.2.1 (by unfold nS; exact r6.2.2.2.2.1) r1, r2, r3, r4, r5, r6.mono hmc hms, fun z hz => hf _ (r7 z hz)⟩
theorem vx_Met.of {l : Launch} {y : MethodName} {ws : List Cond} {rm : Room} {Pc : Array Value → State → Prop} {Qc : Array Value → State → Outcome → State → Prop} {mc ms : Nat} {fr : Addr → Prop} (XC : String → State → State → Prop) (h : Met l y ws rm Pc Qc mc ms fr) : vx_Met l y ws rm Pc Qc XC mc ms fr := by
  intro p e h1 h2 h3 s m args below hfr happ hPa hK
  obtain ⟨n, o, q1, q2, q3, q4⟩ := h p e h1 h2 h3 s m args below hfr happ hPa hK
  exact ⟨n, o, q1, q2, q3, Or.inl q4⟩
theorem va_K.cl2 {D : va_G} {cl : List vw_C} {t1 t2 : List (ClassId × FieldType)} {U : State} (h1 : va_K D cl t1 U) (h2 : va_K D cl t2 U) {i j : Nat} {a b : ClassId} {ty : FieldType} (hi : t1[i]? = some (a, ty)) (hj : t2[j]? = some (b, ty)) : a = b := by
  have r1 := (h1.2 i _ hi).2
  have r2 := (h2.2 j _ hj).2
  cases ty with
  | object C =>
    obtain ⟨_, _, _, _, _, e1⟩ := r1
    obtain ⟨_, _, _, _, _, e2⟩ := r2
    exact Option.some.inj (e1.symm.trans e2)
  | _ => exact Option.some.inj ((show U.vm.findClass _ = some a from r1).symm.trans r2)
/-- the frame of a call, seen from a larger world -/
theorem frA {A : Nat → Prop} {D : va_G} {cl : List vw_C} {ws ws' X X' R : va_W} {st t : State} (p1 : ws.Perm (X ++ R)) (p2 : ws'.Perm (X' ++ R)) (hP : va_P D cl ws st.heap) (hD : va_D A ws) (hF : va_F (va_A X st.heap.size) st t) (hP1 : va_P D cl X' t.heap) (hD1 : va_D (va_A X st.heap.size) X') : va_P D cl ws' t.heap ∧ va_D (va_A ws st.heap.size) ws' :=
  frameG p1 p2 hP (hD.self (sz := st.heap.size)) (fun q h1 h2 => hF.2 q h1 h2) (by
    rintro q (⟨k, e, h⟩ | h)
    · obtain ⟨i, hi⟩ := List.getElem?_of_mem (p1.mem_iff.mpr (List.mem_append_left _ (List.mem_of_getElem? h)))
      exact Or.inl ⟨i, e, hi⟩
    · exact Or.inr h) hP1 hD1
theorem frF {ws X R : va_W} {st t : State} (p1 : ws.Perm (X ++ R)) (hF : va_F (va_A X st.heap.size) st t) : va_F (va_A ws st.heap.size) st t := ⟨hF.1, fun q h1 h2 => hF.2 q h1 (fun h3 => h2 (by
    rcases h3 with ⟨k, e, h⟩ | h
    · obtain ⟨i, hi⟩ := List.getElem?_of_mem (p1.mem_iff.mpr (List.mem_append_left _ (List.mem_of_getElem? h)))
      exact Or.inl ⟨i, e, hi⟩
    · exact Or.inr h))⟩
theorem frS {ws X R : va_W} {sz : Nat} (p1 : ws.Perm (X ++ R)) : ∀ q, va_A X sz q → va_A ws sz q := by
  rintro q (⟨k, e, h⟩ | h)
  · obtain ⟨i, hi⟩ := List.getElem?_of_mem (p1.mem_iff.mpr (List.mem_append_left _ (List.mem_of_getElem? h)))
    exact Or.inl ⟨i, e, hi⟩
  · exact Or.inr h
theorem zr_r {lo hi : Int} (h1 : lo ≤ 0) (h2 : 0 ≤ hi) : ∀ q : Nat, lo ≤ ((fun _ : Nat => (0 : Int32)) q).toInt ∧ ((fun _ : Nat => (0 : Int32)) q).toInt ≤ hi := fun _ => ⟨h1, h2⟩

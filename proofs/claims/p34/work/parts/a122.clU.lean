/-- cells keep their sizes over a call -/
def SzK (H0 H1 : Heap) : Prop := H0.size ≤ H1.size ∧ ∀ (a : Nat) (c : Cell), H0[a]? = some c → ∃ c', H1[a]? = some c' ∧ c'.slots.size = c.slots.size
theorem SzK.of {s t : State} {o : Outcome} {L : List Loc} {k n : Nat} (h : FrameEnd s o t L k n) : SzK s.heap t.heap := by
  obtain ⟨_, _, h1, h2, h3, h4, h5, h6⟩ := h
  exact ⟨h2, fun a c hc => by obtain ⟨c', e1, e2, e3, _⟩ := h6 a c hc; exact ⟨c', e1, e3⟩⟩
theorem Met.szV {l : Launch} {y : MethodName} {ws : List Cond} {rm : Room} {av : List Value} {P0 : State → Prop} {mc ms : Nat} {fr : Addr → Prop} {S : Type} {φ : S → Prop} {B : S → State → Prop} {A : Nat → Prop} {H0 : Heap} (h : Met l y ws rm (va_Pc av P0) (va_Qv φ B A) mc ms fr) (hH : ∀ U, P0 U → U.heap = H0) : Met l y ws rm (va_Pc av P0) (va_Qv φ (fun u t => B u t ∧ SzK H0 t.heap) A) mc ms fr := by
  intro p e h1 h2 h3 s m args below hf ha hP hK
  obtain ⟨n, o, q1, q2, q3, ⟨⟨u, q4, q5, q6⟩, q7⟩, q8⟩ := h p e h1 h2 h3 s m args below hf ha hP hK
  obtain ⟨L, q9, _⟩ := id q8
  exact ⟨n, o, q1, q2, q3, ⟨⟨u, q4, q5, q6, by rw [← hH s hP.2]; exact SzK.of q9⟩, q7⟩, q8⟩
theorem nS_split {n k : Nat} {H H1 : Heap} (h : SzK H H1) (hn : n ≤ H.size) : nS n H1 = nS n H + nS H.size H1 := by
  have key : ∀ d, d + n = H.size → nS n H1 = nS n H + nS H.size H1 := by
    intro d hd
    have e1 : H1.toList.drop n = (H1.toList.take H.size).drop n ++ H1.toList.drop H.size := by
      have h9 : H1.toList = H1.toList.take H.size ++ H1.toList.drop H.size := (List.take_append_drop _ _).symm
      conv => lhs; rw [h9]
      rw [List.drop_append_of_le_length (by rw [List.length_take]; have := h.1; simp; omega)]
    unfold nS
    rw [e1, List.map_append, List.sum_append]
    congr 2
    apply List.ext_getElem?
    intro i
    rw [List.getElem?_map, List.getElem?_map, List.getElem?_drop, List.getElem?_drop, List.getElem?_take]
    by_cases hi : n + i < H.size
    · rw [if_pos hi]
      have h8 : H[n + i]? = some H[n + i] := Array.getElem?_eq_getElem hi
      obtain ⟨c', c1, c2⟩ := h.2 (n + i) _ h8
      rw [Array.getElem?_toList, Array.getElem?_toList, c1, h8]
      simp [c2]
    · rw [if_neg hi, Array.getElem?_toList, Array.getElem?_eq_none (by omega)]
  exact key (H.size - n) (by omega)
theorem nS_0 {n : Nat} {H : Heap} {k : Nat} (h : H.size ≤ n + 0) : nS n H ≤ k := by
  unfold nS
  rw [List.drop_eq_nil_of_le (by simpa using h)]
  exact Nat.zero_le _
theorem lk_ne {x k : Int32} {a : Int} (h : ¬ x = k) (hk : k.toInt = a) : ¬ a = x.toInt := fun q => lv_neT h hk q.symm
/-- a fact that is only handed on (omega does not look into it) -/
def HidP (p : Prop) : Prop := p
theorem hidP {p : Prop} (h : p) : HidP p := h

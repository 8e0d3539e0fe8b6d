/-! how much a method has made, where it throws -/
theorem W.xsz {p : Program} {l : Launch} {e : Env} {R : Room} {s : State} {m : MethodId} {args : Array Value} {below : List Frame} {meth : Method} {c : Code} {H : Heap} {locs : List Loc} {cells slots : Nat} {g : JFrame} {Qc : Array Value → State → Outcome → State → Prop} {XC XC1 : String → State → State → Prop} {mc ms mc1 ms1 : Nat} {free : Addr → Prop} (h1 : mc1 ≤ mc) (h2 : ms1 ≤ ms)
    (hX : ∀ E t, XC1 E s t → t.heap.size ≤ s.heap.size + mc1 → nS s.heap.size t.heap ≤ ms1 → XC E s t) (k : W p l e R s m args below meth c H locs cells slots (vx_MQ below Qc XC1 args s mc1 ms1 free) g) : W p l e R s m args below meth c H locs cells slots (vx_MQ below Qc XC args s mc ms free) g := by
  intro T hT X
  obtain ⟨t, a1, o, b1, b2, b3⟩ := k T hT X
  refine ⟨t, a1, o, b1, b2, ?_⟩
  rcases b3 with ⟨q4, L, q5, q6⟩ | ⟨q, q4, E, ce, L, r1, r2, r3, r4, r5, r6, r7⟩
  · exact Or.inl ⟨q4, L, ⟨q5.1, q5.2.1, q5.2.2.mono h1 h2⟩, q6⟩
  · exact Or.inr ⟨q, q4, E, ce, L, hX _ _ r1 r6.2.2.1 (by unfold nS; exact r6.2.2.2.2.1), r2, r3, r4, r5, r6.mono h1 h2, r7⟩
theorem vx_known {p : Program} {l : Launch} {e : Env} {R : Room} {s : State} {m : MethodId} {args : Array Value} {below : List Frame} {meth : Method} {c : Code} {H : Heap} {locs : List Loc} {cells slots : Nat} {Q : State → Prop} {g : JFrame} {q : Addr}
    (k : H.size ≤ s.heap.size + cells → nS s.heap.size H ≤ slots → vx_W p l e R s m args below meth c H locs cells slots Q g q) : vx_W p l e R s m args below meth c H locs cells slots Q g q := fun T hT X => by
  have h := X.same
  have e1 : (T.setVm s.vm).heap = H := hT
  exact k (by rw [← e1]; exact h.2.2.1) (by unfold nS; rw [← e1]; exact h.2.2.2.2.1) T hT X

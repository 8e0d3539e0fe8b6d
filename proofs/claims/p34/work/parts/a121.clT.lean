/-! how many cells and slots were made: the heap shows it -/
def nS (n : Nat) (H : Heap) : Nat := ((H.toList.drop n).map (·.slots.size)).sum
theorem W.known {p : Program} {l : Launch} {e : Env} {R : Room} {s : State} {m : MethodId} {args : Array Value} {below : List Frame} {meth : Method} {c : Code} {H : Heap} {locs : List Loc} {cells slots : Nat} {Q : State → Prop} {g : JFrame}
    (k : H.size ≤ s.heap.size + cells → nS s.heap.size H ≤ slots → W p l e R s m args below meth c H locs cells slots Q g) : W p l e R s m args below meth c H locs cells slots Q g := fun T hT X => by
  have h := X.same
  have e1 : (T.setVm s.vm).heap = H := hT
  exact k (by rw [← e1]; exact h.2.2.1) (by unfold nS; rw [← e1]; exact h.2.2.2.2.1) T hT X
theorem W.tight {p : Program} {l : Launch} {e : Env} {R : Room} {s : State} {m : MethodId} {args : Array Value} {below : List Frame} {meth : Method} {c : Code} {H : Heap} {locs : List Loc} {cells slots cells2 slots2 : Nat} {Q : State → Prop} {g : JFrame}
    (h1 : H.size ≤ s.heap.size + cells2) (h2 : nS s.heap.size H ≤ slots2) (k : W p l e R s m args below meth c H locs cells2 slots2 Q g) : W p l e R s m args below meth c H locs cells slots Q g := fun T hT X => by
  have e1 : (T.setVm s.vm).heap = H := hT
  have h := X.same
  exact k T hT { X with same := ⟨h.1, h.2.1, by rw [e1]; exact h1, h.2.2.2.1, by rw [e1]; exact h2, h.2.2.2.2.2⟩ }

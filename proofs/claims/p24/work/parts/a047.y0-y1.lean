section
/-! the law's calls -/
theorem Met.sL {l : Launch} {y : MethodName} {ws : List Cond} {rm : Room} {av : List Value} {P0 : State → Prop} {mc ms : Nat} {fr : Addr → Prop} {S : Type} {φ : Int64 → S → Prop} {B : S → State → Prop} {A : Nat → Prop} (h : Met l y ws rm (va_Pc av P0) (va_Ql φ B A) mc ms fr) (H0 : Heap) : Met l y ws rm (va_Pc av (fun U => U.heap = H0 ∧ P0 U)) (va_Ql φ (fun u t => B u t ∧ SzK H0 t.heap) A) mc ms fr := by
  intro p e h1 h2 h3 s m args below hf ha hP hK
  obtain ⟨n, o, q1, q2, q3, ⟨⟨r, u, q4, q5, q6⟩, q7⟩, q8⟩ := h p e h1 h2 h3 s m args below hf ha ⟨hP.1, hP.2.2⟩ hK
  obtain ⟨L, q9, _⟩ := id q8
  exact ⟨n, o, q1, q2, q3, ⟨⟨r, u, q4, q5, q6, by rw [← hP.2.1]; exact SzK.of q9⟩, q7⟩, q8⟩
theorem lw_free {A : Nat → Prop} {w : va_W} {s : State} {H : Heap} {locs : List Loc} (hD : va_D A w) (hS : va_S A s.heap H locs) (hA : ∀ q : Nat, s.heap.size ≤ q → A q) : ∀ x, va_A w H.size x → A x := by
  rintro x (⟨k, e9, h⟩ | h)
  · exact hD.2 k _ h
  · exact hA x (Nat.le_trans hS.1 h)
/-- none of the three throws is another -/
def NcE (U : State) : Prop := va_Nc "java/lang/IndexOutOfBoundsException" "java/lang/IllegalStateException" U ∧ va_Nc "java/lang/IllegalStateException" "java/lang/IllegalArgumentException" U ∧ va_Nc "java/lang/IllegalArgumentException" "java/lang/IndexOutOfBoundsException" U
theorem NcE.moved {U V : State} (hv : U.vm.Alike V.vm) (h : NcE U) : NcE V := ⟨va_Nc.moved hv h.1, va_Nc.moved hv h.2.1, va_Nc.moved hv h.2.2⟩
theorem lawC_i {p : Program} {l : Launch} {e : Env} {R : Room} {s : State} {m : MethodId} {args : Array Value} {below : List Frame} {meth : Method} {c : Code} {H : Heap} {locs : List Loc} {cells slots : Nat} {Q : State → Prop} {cc : ByteArray} {nL : Nat} {Ts : List Cond} {own : String} {pc : Nat} {ls : Array Slot} {A : Nat → Prop} {D : va_G} {τ : List (ClassId × FieldType)} {y : MethodName} {ws : List Cond} {rm : Room} {mc ms n index maxL : Nat} {bytes : ByteArray} {ret : Option FieldType} {q : Nat} {As rest : List Value} {Fc Fs : Nat} {w v : va_W} {eo : Nat × va_E} {post : Int32 → (LT × Nat × Nat × va_W) → Prop} (S9 : CallFix p m c cc nL s args Ts own)
    (hM : Met l y ws rm (va_Pc (.ref q :: As) (fun U => U.heap.size = H.size ∧ va_P D vwCl w U.heap ∧ va_K D vwCl τ U ∧ va_D (fun _ => True) w ∧ CE (va_A w H.size) U U.heap)) (va_Qi post (fun u t => va_P D vwCl u.2.2.2 t.heap ∧ va_D (va_A w H.size) u.2.2.2 ∧ t.heap.size + Fc ≤ H.size + u.2.1 + 1000 ∧ nS H.size t.heap + Fs ≤ u.2.2.1 + 9000) (va_A w H.size)) mc ms (va_A w H.size))
    (cw : CallW R s args own RX11 index y bytes maxL ret ws rm mc ms n) (hq : ∃ fs, w[0]? = some (q, .inr (11, fs))) (hK : va_K D vwCl τ s) (hE : CE A s s.heap) (hA : ∀ q : Nat, s.heap.size ≤ q → A q) (hP : va_P D vwCl (eo :: (w ++ v)) H) (hD : va_D A (eo :: (w ++ v))) (hS : va_S A s.heap H locs)
    (hn : As.length = n) (hsize : ls.size = nL) (hW : 2 * (F0 m pc ls (As.reverse ++ .ref q :: rest)).monitorRoom + (rest.map fun v => v.category).sum ≤ 8) (hdg : decode cc pc = .ok (.invokevirtual index, 3)) (hf : cells + mc ≤ R.cells ∧ slots + ms ≤ R.slots)
    (kk : ∀ (r : Int32) (u : (LT × Nat × Nat × va_W)) (H1 : Heap) (locs1 : List Loc), post r u → va_P D vwCl (eo :: (u.2.2.2 ++ v)) H1 → va_D A (eo :: (u.2.2.2 ++ v)) → va_S A s.heap H1 locs1 → H1.size + Fc ≤ H.size + u.2.1 + 1000 → nS s.heap.size H1 + Fs ≤ nS s.heap.size H + u.2.2.1 + 9000 → W p l e R s m args below meth c H1 locs1 (cells + mc) (slots + ms) Q (F0 m (pc + 3) ls (.int r :: rest))) :
    W p l e R s m args below meth c H locs cells slots Q (F0 m pc ls (As.reverse ++ .ref q :: rest)) := by
  obtain ⟨fs, hq⟩ := hq
  have pm : (eo :: (w ++ v)).Perm (w ++ (eo :: v)) := List.perm_middle.symm
  have hPc : va_P D vwCl w H := hP.mem (fun x hx => pm.mem_iff.mpr (List.mem_append_left _ hx))
  have hDc : va_D A w := (hD.perm pm).left
  have hFc := lw_free hDc hS hA
  refine va_calli (va_runV (As := As) (rest := rest) S9 (Met.sI hM H) cw ⟨fun a U g mk z => by obtain ⟨q0, q1, q2, qP, qK, qD, qE⟩ := z; exact ⟨q0, q1, q2, qP, va_K.moved (u := U) (U := U.calling g mk a) (Vm.Alike.refl U.vm) qK, qD, qE.call⟩, va_recv hK hPc (ci := 11) (q0 := 0) rfl hq, fun U hU9 hW => ⟨rfl, hU9, by rw [hU9], by rw [hU9]; exact hPc, va_K.moved hW.alike hK, hDc.weaken (fun _ _ _ _ => trivial), by rw [hU9]; exact ((hE.kept (fun a h1 h2 => hS.2.1 a h1 h2)).narrow hFc).warm hW⟩⟩ rfl hn hsize rfl hW hdg hf) hS (fun x _ h => hFc x h) hFc (fun r u t H1 locs ht hvm hw hB hz1 hk1 hS1 => ?_)
  obtain ⟨⟨hP1, hD1, hz, hs⟩, hK9⟩ := hB
  rw [ht] at hP1 hz hs hK9
  obtain ⟨hP2, hD2⟩ := frameG pm (ws' := eo :: (u.2.2.2 ++ v)) List.perm_middle.symm hP hD hk1 hFc hP1 hD1
  exact kk r u H1 locs hw hP2 hD2 hS1 hz (by have := hK9.n hS.1; omega)
theorem lawR_i {p : Program} {l : Launch} {e : Env} {R : Room} {s : State} {m : MethodId} {args : Array Value} {below : List Frame} {meth : Method} {c : Code} {H : Heap} {locs : List Loc} {cells slots : Nat} {Q : State → Prop} {cc : ByteArray} {nL : Nat} {Ts : List Cond} {own : String} {pc : Nat} {ls : Array Slot} {A : Nat → Prop} {D : va_G} {τ : List (ClassId × FieldType)} {y : MethodName} {ws : List Cond} {rm : Room} {mc ms n index maxL : Nat} {bytes : ByteArray} {ret : Option FieldType} {q : Nat} {As rest : List Value} {w v : va_W} {eo : Nat × va_E} {post : Int32 → (TT × Int32 × va_W) → Prop} (S9 : CallFix p m c cc nL s args Ts own)
    (hM : Met l y ws rm (va_Pc (.ref q :: As) (fun U => U.heap.size = H.size ∧ va_P D vwCl v U.heap ∧ va_K D vwCl τ U ∧ va_D (fun _ => True) v ∧ StrA (va_A v H.size) U U.heap)) (va_Qi post (fun u t => va_P D vwCl u.2.2 t.heap ∧ va_D (va_A v H.size) u.2.2) (va_A v H.size)) mc ms (va_A v H.size))
    (cw : CallW R s args own RX12 index y bytes maxL ret ws rm mc ms n) (hq : ∃ fs, v[0]? = some (q, .inr (12, fs))) (hK : va_K D vwCl τ s) (hE : StrA A s s.heap) (hA : ∀ q : Nat, s.heap.size ≤ q → A q) (hP : va_P D vwCl (eo :: (w ++ v)) H) (hD : va_D A (eo :: (w ++ v))) (hS : va_S A s.heap H locs)
    (hn : As.length = n) (hsize : ls.size = nL) (hW : 2 * (F0 m pc ls (As.reverse ++ .ref q :: rest)).monitorRoom + (rest.map fun v => v.category).sum ≤ 8) (hdg : decode cc pc = .ok (.invokevirtual index, 3)) (hf : cells + mc ≤ R.cells ∧ slots + ms ≤ R.slots)
    (kk : ∀ (r : Int32) (u : TT × Int32 × va_W) (H1 : Heap) (locs1 : List Loc), post r u → va_P D vwCl (eo :: (w ++ u.2.2)) H1 → va_D A (eo :: (w ++ u.2.2)) → va_S A s.heap H1 locs1 → W p l e R s m args below meth c H1 locs1 (cells + mc) (slots + ms) Q (F0 m (pc + 3) ls (.int r :: rest))) :
    W p l e R s m args below meth c H locs cells slots Q (F0 m pc ls (As.reverse ++ .ref q :: rest)) := by
  obtain ⟨fs, hq⟩ := hq
  have pm : (eo :: (w ++ v)).Perm (v ++ (eo :: w)) := List.perm_append_comm (l₁ := eo :: w) (l₂ := v)
  have hPc : va_P D vwCl v H := hP.mem (fun x hx => pm.mem_iff.mpr (List.mem_append_left _ hx))
  have hDc : va_D A v := (hD.perm pm).left
  have hFc := lw_free hDc hS hA
  refine va_calli (va_runV (As := As) (rest := rest) S9 hM cw ⟨fun a U g mk z => by obtain ⟨q0, q2, qP, qK, qD, qE⟩ := z; exact ⟨q0, q2, qP, va_K.moved (u := U) (U := U.calling g mk a) (Vm.Alike.refl U.vm) qK, qD, qE.same rfl⟩, va_recv hK hPc (ci := 12) (q0 := 0) rfl hq, fun U hU9 hW => ⟨rfl, by rw [hU9], by rw [hU9]; exact hPc, va_K.moved hW.alike hK, hDc.weaken (fun _ _ _ _ => trivial), by rw [hU9]; exact ((hE.kept (fun a h1 h2 => hS.2.1 a h1 h2)).narrow hFc).warm hW⟩⟩ rfl hn hsize rfl hW hdg hf) hS (fun x _ h => hFc x h) hFc (fun r u t H1 locs ht hvm hw hB hz1 hk1 hS1 => ?_)
  obtain ⟨hP1, hD1⟩ := hB
  rw [ht] at hP1
  obtain ⟨hP2, hD2⟩ := frameG pm (ws' := eo :: (w ++ u.2.2)) (List.perm_append_comm (l₁ := eo :: w) (l₂ := u.2.2)) hP hD hk1 hFc hP1 hD1
  exact kk r u H1 locs hw hP2 hD2 hS1
theorem lawC_v {p : Program} {l : Launch} {e : Env} {R : Room} {s : State} {m : MethodId} {args : Array Value} {below : List Frame} {meth : Method} {c : Code} {H : Heap} {locs : List Loc} {cells slots : Nat} {Q : State → Prop} {cc : ByteArray} {nL : Nat} {Ts : List Cond} {own : String} {pc : Nat} {ls : Array Slot} {A : Nat → Prop} {D : va_G} {τ : List (ClassId × FieldType)} {y : MethodName} {ws : List Cond} {rm : Room} {mc ms n index maxL : Nat} {bytes : ByteArray} {ret : Option FieldType} {q : Nat} {As rest : List Value} {Fc Fs : Nat} {w v : va_W} {eo : Nat × va_E} {post : (LT × Nat × Nat × va_W) → Prop} (S9 : CallFix p m c cc nL s args Ts own)
    (hM : Met l y ws rm (va_Pc (.ref q :: As) (fun U => U.heap.size = H.size ∧ va_P D vwCl w U.heap ∧ va_K D vwCl τ U ∧ va_D (fun _ => True) w ∧ CE (va_A w H.size) U U.heap)) (va_Qv post (fun u t => va_P D vwCl u.2.2.2 t.heap ∧ va_D (va_A w H.size) u.2.2.2 ∧ t.heap.size + Fc ≤ H.size + u.2.1 + 1000 ∧ nS H.size t.heap + Fs ≤ u.2.2.1 + 9000) (va_A w H.size)) mc ms (va_A w H.size))
    (cw : CallW R s args own RX11 index y bytes maxL ret ws rm mc ms n) (hq : ∃ fs, w[0]? = some (q, .inr (11, fs))) (hK : va_K D vwCl τ s) (hE : CE A s s.heap) (hA : ∀ q : Nat, s.heap.size ≤ q → A q) (hP : va_P D vwCl (eo :: (w ++ v)) H) (hD : va_D A (eo :: (w ++ v))) (hS : va_S A s.heap H locs)
    (hn : As.length = n) (hsize : ls.size = nL) (hW : 2 * (F0 m pc ls (As.reverse ++ .ref q :: rest)).monitorRoom + (rest.map fun v => v.category).sum ≤ 8) (hdg : decode cc pc = .ok (.invokevirtual index, 3)) (hf : cells + mc ≤ R.cells ∧ slots + ms ≤ R.slots)
    (kk : ∀ (u : (LT × Nat × Nat × va_W)) (H1 : Heap) (locs1 : List Loc), post u → va_P D vwCl (eo :: (u.2.2.2 ++ v)) H1 → va_D A (eo :: (u.2.2.2 ++ v)) → va_S A s.heap H1 locs1 → H1.size + Fc ≤ H.size + u.2.1 + 1000 → nS s.heap.size H1 + Fs ≤ nS s.heap.size H + u.2.2.1 + 9000 → W p l e R s m args below meth c H1 locs1 (cells + mc) (slots + ms) Q (F0 m (pc + 3) ls (rest))) :
    W p l e R s m args below meth c H locs cells slots Q (F0 m pc ls (As.reverse ++ .ref q :: rest)) := by
  obtain ⟨fs, hq⟩ := hq
  have pm : (eo :: (w ++ v)).Perm (w ++ (eo :: v)) := List.perm_middle.symm
  have hPc : va_P D vwCl w H := hP.mem (fun x hx => pm.mem_iff.mpr (List.mem_append_left _ hx))
  have hDc : va_D A w := (hD.perm pm).left
  have hFc := lw_free hDc hS hA
  refine va_callv (va_runV (As := As) (rest := rest) S9 (Met.sV hM H) cw ⟨fun a U g mk z => by obtain ⟨q0, q1, q2, qP, qK, qD, qE⟩ := z; exact ⟨q0, q1, q2, qP, va_K.moved (u := U) (U := U.calling g mk a) (Vm.Alike.refl U.vm) qK, qD, qE.call⟩, va_recv hK hPc (ci := 11) (q0 := 0) rfl hq, fun U hU9 hW => ⟨rfl, hU9, by rw [hU9], by rw [hU9]; exact hPc, va_K.moved hW.alike hK, hDc.weaken (fun _ _ _ _ => trivial), by rw [hU9]; exact ((hE.kept (fun a h1 h2 => hS.2.1 a h1 h2)).narrow hFc).warm hW⟩⟩ rfl hn hsize rfl hW hdg hf) hS (fun x _ h => hFc x h) hFc (fun u t H1 locs ht hvm hw hB hz1 hk1 hS1 => ?_)
  obtain ⟨⟨hP1, hD1, hz, hs⟩, hK9⟩ := hB
  rw [ht] at hP1 hz hs hK9
  obtain ⟨hP2, hD2⟩ := frameG pm (ws' := eo :: (u.2.2.2 ++ v)) List.perm_middle.symm hP hD hk1 hFc hP1 hD1
  exact kk u H1 locs hw hP2 hD2 hS1 hz (by have := hK9.n hS.1; omega)
theorem lawR_v {p : Program} {l : Launch} {e : Env} {R : Room} {s : State} {m : MethodId} {args : Array Value} {below : List Frame} {meth : Method} {c : Code} {H : Heap} {locs : List Loc} {cells slots : Nat} {Q : State → Prop} {cc : ByteArray} {nL : Nat} {Ts : List Cond} {own : String} {pc : Nat} {ls : Array Slot} {A : Nat → Prop} {D : va_G} {τ : List (ClassId × FieldType)} {y : MethodName} {ws : List Cond} {rm : Room} {mc ms n index maxL : Nat} {bytes : ByteArray} {ret : Option FieldType} {q : Nat} {As rest : List Value} {w v : va_W} {eo : Nat × va_E} {post : (TT × Int32 × va_W) → Prop} (S9 : CallFix p m c cc nL s args Ts own)
    (hM : Met l y ws rm (va_Pc (.ref q :: As) (fun U => U.heap.size = H.size ∧ va_P D vwCl v U.heap ∧ va_K D vwCl τ U ∧ va_D (fun _ => True) v ∧ StrA (va_A v H.size) U U.heap)) (va_Qv post (fun u t => va_P D vwCl u.2.2 t.heap ∧ va_D (va_A v H.size) u.2.2) (va_A v H.size)) mc ms (va_A v H.size))
    (cw : CallW R s args own RX12 index y bytes maxL ret ws rm mc ms n) (hq : ∃ fs, v[0]? = some (q, .inr (12, fs))) (hK : va_K D vwCl τ s) (hE : StrA A s s.heap) (hA : ∀ q : Nat, s.heap.size ≤ q → A q) (hP : va_P D vwCl (eo :: (w ++ v)) H) (hD : va_D A (eo :: (w ++ v))) (hS : va_S A s.heap H locs)
    (hn : As.length = n) (hsize : ls.size = nL) (hW : 2 * (F0 m pc ls (As.reverse ++ .ref q :: rest)).monitorRoom + (rest.map fun v => v.category).sum ≤ 8) (hdg : decode cc pc = .ok (.invokevirtual index, 3)) (hf : cells + mc ≤ R.cells ∧ slots + ms ≤ R.slots)
    (kk : ∀ (u : TT × Int32 × va_W) (H1 : Heap) (locs1 : List Loc), post u → va_P D vwCl (eo :: (w ++ u.2.2)) H1 → va_D A (eo :: (w ++ u.2.2)) → va_S A s.heap H1 locs1 → W p l e R s m args below meth c H1 locs1 (cells + mc) (slots + ms) Q (F0 m (pc + 3) ls (rest))) :
    W p l e R s m args below meth c H locs cells slots Q (F0 m pc ls (As.reverse ++ .ref q :: rest)) := by
  obtain ⟨fs, hq⟩ := hq
  have pm : (eo :: (w ++ v)).Perm (v ++ (eo :: w)) := List.perm_append_comm (l₁ := eo :: w) (l₂ := v)
  have hPc : va_P D vwCl v H := hP.mem (fun x hx => pm.mem_iff.mpr (List.mem_append_left _ hx))
  have hDc : va_D A v := (hD.perm pm).left
  have hFc := lw_free hDc hS hA
  refine va_callv (va_runV (As := As) (rest := rest) S9 hM cw ⟨fun a U g mk z => by obtain ⟨q0, q2, qP, qK, qD, qE⟩ := z; exact ⟨q0, q2, qP, va_K.moved (u := U) (U := U.calling g mk a) (Vm.Alike.refl U.vm) qK, qD, qE.same rfl⟩, va_recv hK hPc (ci := 12) (q0 := 0) rfl hq, fun U hU9 hW => ⟨rfl, by rw [hU9], by rw [hU9]; exact hPc, va_K.moved hW.alike hK, hDc.weaken (fun _ _ _ _ => trivial), by rw [hU9]; exact ((hE.kept (fun a h1 h2 => hS.2.1 a h1 h2)).narrow hFc).warm hW⟩⟩ rfl hn hsize rfl hW hdg hf) hS (fun x _ h => hFc x h) hFc (fun u t H1 locs ht hvm hw hB hz1 hk1 hS1 => ?_)
  obtain ⟨hP1, hD1⟩ := hB
  rw [ht] at hP1
  obtain ⟨hP2, hD2⟩ := frameG pm (ws' := eo :: (w ++ u.2.2)) (List.perm_append_comm (l₁ := eo :: w) (l₂ := u.2.2)) hP hD hk1 hFc hP1 hD1
  exact kk u H1 locs hw hP2 hD2 hS1
theorem lawC_l {p : Program} {l : Launch} {e : Env} {R : Room} {s : State} {m : MethodId} {args : Array Value} {below : List Frame} {meth : Method} {c : Code} {H : Heap} {locs : List Loc} {cells slots : Nat} {Q : State → Prop} {cc : ByteArray} {nL : Nat} {Ts : List Cond} {own : String} {pc : Nat} {ls : Array Slot} {A : Nat → Prop} {D : va_G} {τ : List (ClassId × FieldType)} {y : MethodName} {ws : List Cond} {rm : Room} {mc ms n index maxL : Nat} {bytes : ByteArray} {ret : Option FieldType} {q : Nat} {As rest : List Value} {Fc Fs : Nat} {w v : va_W} {eo : Nat × va_E} {post : Int64 → (LT × Nat × Nat × va_W) → Prop} (S9 : CallFix p m c cc nL s args Ts own)
    (hM : Met l y ws rm (va_Pc (.ref q :: As) (fun U => U.heap.size = H.size ∧ va_P D vwCl w U.heap ∧ va_K D vwCl τ U ∧ va_D (fun _ => True) w ∧ CE (va_A w H.size) U U.heap)) (va_Ql post (fun u t => va_P D vwCl u.2.2.2 t.heap ∧ va_D (va_A w H.size) u.2.2.2 ∧ t.heap.size + Fc ≤ H.size + u.2.1 + 1000 ∧ nS H.size t.heap + Fs ≤ u.2.2.1 + 9000) (va_A w H.size)) mc ms (va_A w H.size))
    (cw : CallW R s args own RX11 index y bytes maxL ret ws rm mc ms n) (hq : ∃ fs, w[0]? = some (q, .inr (11, fs))) (hK : va_K D vwCl τ s) (hE : CE A s s.heap) (hA : ∀ q : Nat, s.heap.size ≤ q → A q) (hP : va_P D vwCl (eo :: (w ++ v)) H) (hD : va_D A (eo :: (w ++ v))) (hS : va_S A s.heap H locs)
    (hn : As.length = n) (hsize : ls.size = nL) (hW : 2 * (F0 m pc ls (As.reverse ++ .ref q :: rest)).monitorRoom + (rest.map fun v => v.category).sum ≤ 8) (hdg : decode cc pc = .ok (.invokevirtual index, 3)) (hf : cells + mc ≤ R.cells ∧ slots + ms ≤ R.slots)
    (kk : ∀ (r : Int64) (u : (LT × Nat × Nat × va_W)) (H1 : Heap) (locs1 : List Loc), post r u → va_P D vwCl (eo :: (u.2.2.2 ++ v)) H1 → va_D A (eo :: (u.2.2.2 ++ v)) → va_S A s.heap H1 locs1 → H1.size + Fc ≤ H.size + u.2.1 + 1000 → nS s.heap.size H1 + Fs ≤ nS s.heap.size H + u.2.2.1 + 9000 → W p l e R s m args below meth c H1 locs1 (cells + mc) (slots + ms) Q (F0 m (pc + 3) ls (.long r :: rest))) :
    W p l e R s m args below meth c H locs cells slots Q (F0 m pc ls (As.reverse ++ .ref q :: rest)) := by
  obtain ⟨fs, hq⟩ := hq
  have pm : (eo :: (w ++ v)).Perm (w ++ (eo :: v)) := List.perm_middle.symm
  have hPc : va_P D vwCl w H := hP.mem (fun x hx => pm.mem_iff.mpr (List.mem_append_left _ hx))
  have hDc : va_D A w := (hD.perm pm).left
  have hFc := lw_free hDc hS hA
  refine va_calll (va_runV (As := As) (rest := rest) S9 (Met.sL hM H) cw ⟨fun a U g mk z => by obtain ⟨q0, q1, q2, qP, qK, qD, qE⟩ := z; exact ⟨q0, q1, q2, qP, va_K.moved (u := U) (U := U.calling g mk a) (Vm.Alike.refl U.vm) qK, qD, qE.call⟩, va_recv hK hPc (ci := 11) (q0 := 0) rfl hq, fun U hU9 hW => ⟨rfl, hU9, by rw [hU9], by rw [hU9]; exact hPc, va_K.moved hW.alike hK, hDc.weaken (fun _ _ _ _ => trivial), by rw [hU9]; exact ((hE.kept (fun a h1 h2 => hS.2.1 a h1 h2)).narrow hFc).warm hW⟩⟩ rfl hn hsize rfl hW hdg hf) hS (fun x _ h => hFc x h) hFc (fun r u t H1 locs ht hvm hw hB hz1 hk1 hS1 => ?_)
  obtain ⟨⟨hP1, hD1, hz, hs⟩, hK9⟩ := hB
  rw [ht] at hP1 hz hs hK9
  obtain ⟨hP2, hD2⟩ := frameG pm (ws' := eo :: (u.2.2.2 ++ v)) List.perm_middle.symm hP hD hk1 hFc hP1 hD1
  exact kk r u H1 locs hw hP2 hD2 hS1 hz (by have := hK9.n hS.1; omega)
theorem lawR_l {p : Program} {l : Launch} {e : Env} {R : Room} {s : State} {m : MethodId} {args : Array Value} {below : List Frame} {meth : Method} {c : Code} {H : Heap} {locs : List Loc} {cells slots : Nat} {Q : State → Prop} {cc : ByteArray} {nL : Nat} {Ts : List Cond} {own : String} {pc : Nat} {ls : Array Slot} {A : Nat → Prop} {D : va_G} {τ : List (ClassId × FieldType)} {y : MethodName} {ws : List Cond} {rm : Room} {mc ms n index maxL : Nat} {bytes : ByteArray} {ret : Option FieldType} {q : Nat} {As rest : List Value} {w v : va_W} {eo : Nat × va_E} {post : Int64 → (TT × Int32 × va_W) → Prop} (S9 : CallFix p m c cc nL s args Ts own)
    (hM : Met l y ws rm (va_Pc (.ref q :: As) (fun U => U.heap.size = H.size ∧ va_P D vwCl v U.heap ∧ va_K D vwCl τ U ∧ va_D (fun _ => True) v ∧ StrA (va_A v H.size) U U.heap)) (va_Ql post (fun u t => va_P D vwCl u.2.2 t.heap ∧ va_D (va_A v H.size) u.2.2) (va_A v H.size)) mc ms (va_A v H.size))
    (cw : CallW R s args own RX12 index y bytes maxL ret ws rm mc ms n) (hq : ∃ fs, v[0]? = some (q, .inr (12, fs))) (hK : va_K D vwCl τ s) (hE : StrA A s s.heap) (hA : ∀ q : Nat, s.heap.size ≤ q → A q) (hP : va_P D vwCl (eo :: (w ++ v)) H) (hD : va_D A (eo :: (w ++ v))) (hS : va_S A s.heap H locs)
    (hn : As.length = n) (hsize : ls.size = nL) (hW : 2 * (F0 m pc ls (As.reverse ++ .ref q :: rest)).monitorRoom + (rest.map fun v => v.category).sum ≤ 8) (hdg : decode cc pc = .ok (.invokevirtual index, 3)) (hf : cells + mc ≤ R.cells ∧ slots + ms ≤ R.slots)
    (kk : ∀ (r : Int64) (u : TT × Int32 × va_W) (H1 : Heap) (locs1 : List Loc), post r u → va_P D vwCl (eo :: (w ++ u.2.2)) H1 → va_D A (eo :: (w ++ u.2.2)) → va_S A s.heap H1 locs1 → W p l e R s m args below meth c H1 locs1 (cells + mc) (slots + ms) Q (F0 m (pc + 3) ls (.long r :: rest))) :
    W p l e R s m args below meth c H locs cells slots Q (F0 m pc ls (As.reverse ++ .ref q :: rest)) := by
  obtain ⟨fs, hq⟩ := hq
  have pm : (eo :: (w ++ v)).Perm (v ++ (eo :: w)) := List.perm_append_comm (l₁ := eo :: w) (l₂ := v)
  have hPc : va_P D vwCl v H := hP.mem (fun x hx => pm.mem_iff.mpr (List.mem_append_left _ hx))
  have hDc : va_D A v := (hD.perm pm).left
  have hFc := lw_free hDc hS hA
  refine va_calll (va_runV (As := As) (rest := rest) S9 hM cw ⟨fun a U g mk z => by obtain ⟨q0, q2, qP, qK, qD, qE⟩ := z; exact ⟨q0, q2, qP, va_K.moved (u := U) (U := U.calling g mk a) (Vm.Alike.refl U.vm) qK, qD, qE.same rfl⟩, va_recv hK hPc (ci := 12) (q0 := 0) rfl hq, fun U hU9 hW => ⟨rfl, by rw [hU9], by rw [hU9]; exact hPc, va_K.moved hW.alike hK, hDc.weaken (fun _ _ _ _ => trivial), by rw [hU9]; exact ((hE.kept (fun a h1 h2 => hS.2.1 a h1 h2)).narrow hFc).warm hW⟩⟩ rfl hn hsize rfl hW hdg hf) hS (fun x _ h => hFc x h) hFc (fun r u t H1 locs ht hvm hw hB hz1 hk1 hS1 => ?_)
  obtain ⟨hP1, hD1⟩ := hB
  rw [ht] at hP1
  obtain ⟨hP2, hD2⟩ := frameG pm (ws' := eo :: (w ++ u.2.2)) (List.perm_append_comm (l₁ := eo :: w) (l₂ := u.2.2)) hP hD hk1 hFc hP1 hD1
  exact kk r u H1 locs hw hP2 hD2 hS1
theorem lawX_i {p : Program} {l : Launch} {e : Env} {R : Room} {s : State} {m : MethodId} {args : Array Value} {below : List Frame} {meth : Method} {c : Code} {cells slots : Nat} {Q : State → Prop} {cc : ByteArray} {nL : Nat} {Ts : List Cond} {own : String} {pc : Nat} {ls : Array Slot} {A : Nat → Prop} {D : va_G} {τ : List (ClassId × FieldType)} {y : MethodName} {ws : List Cond} {rm : Room} {mc ms n index maxL : Nat} {bytes : ByteArray} {ret : Option FieldType} {q : Nat} {As rest : List Value} {Fc Fs : Nat} {w : va_W} {eo : Nat × va_E} {post : Int32 → (LT × Nat × Nat × va_W) → Prop} {px : (LT × Nat × Nat × va_W) → Prop} {PE : String → Prop} (S9 : CallFix p m c cc nL s args Ts own)
    (hM : vx_Met l y ws rm (va_Pc (.ref q :: As) (fun U => U.heap.size = s.heap.size ∧ va_P D vwCl w U.heap ∧ va_K D vwCl τ U ∧ va_D (fun _ => True) w ∧ CE (va_A w s.heap.size) U U.heap)) (va_Qi post (fun u t => va_P D vwCl u.2.2.2 t.heap ∧ va_D (va_A w s.heap.size) u.2.2.2 ∧ t.heap.size + Fc ≤ s.heap.size + u.2.1 + 1000 ∧ nS s.heap.size t.heap + Fs ≤ u.2.2.1 + 9000) (va_A w s.heap.size)) (vx_X px (fun E u t => PE E ∧ va_P D vwCl u.2.2.2 t.heap ∧ va_D (va_A w s.heap.size) u.2.2.2 ∧ t.heap.size + Fc ≤ s.heap.size + u.2.1 + 1000 ∧ nS s.heap.size t.heap + Fs ≤ u.2.2.1 + 9000) (va_A w s.heap.size)) mc ms (va_A w s.heap.size))
    (cw : CallW R s args own RX11 index y bytes maxL ret ws rm mc ms n) (hq : ∃ fs, w[0]? = some (q, .inr (11, fs))) (hK : va_K D vwCl τ s) (hE : CE A s s.heap) (hA : ∀ q : Nat, s.heap.size ≤ q → A q) (hP : va_P D vwCl (eo :: w) s.heap) (hD : va_D A (eo :: w))
    (hn : As.length = n) (hsize : ls.size = nL) (hW : 2 * (F0 m pc ls (As.reverse ++ .ref q :: rest)).monitorRoom + (rest.map fun v => v.category).sum ≤ 8) (hdg : decode cc pc = .ok (.invokevirtual index, 3)) (hf : cells + mc ≤ R.cells ∧ slots + ms ≤ R.slots)
    (kx : ∀ (E : String) (ce : Cell) (q9 : Nat) (u : (LT × Nat × Nat × va_W)) (H1 : Heap) (locs1 : List Loc), px u → PE E → va_P D vwCl (eo :: u.2.2.2) H1 → va_D A (eo :: u.2.2.2) → va_S A s.heap H1 locs1 → H1.size + Fc ≤ s.heap.size + u.2.1 + 1000 → nS s.heap.size H1 + Fs ≤ u.2.2.1 + 9000 → H1[q9]? = some ce → ce.vm = .none → s.vm.findClass E = some ce.cls → vx_W p l e R s m args below meth c H1 locs1 (cells + mc) (slots + ms) Q (F0 m pc ls rest) q9)
    (kk : ∀ (r : Int32) (u : (LT × Nat × Nat × va_W)) (H1 : Heap) (locs1 : List Loc), post r u → va_P D vwCl (eo :: u.2.2.2) H1 → va_D A (eo :: u.2.2.2) → va_S A s.heap H1 locs1 → H1.size + Fc ≤ s.heap.size + u.2.1 + 1000 → nS s.heap.size H1 + Fs ≤ u.2.2.1 + 9000 → W p l e R s m args below meth c H1 locs1 (cells + mc) (slots + ms) Q (F0 m (pc + 3) ls (.int r :: rest))) :
    W p l e R s m args below meth c s.heap [] cells slots Q (F0 m pc ls (As.reverse ++ .ref q :: rest)) := by
  obtain ⟨fs, hq⟩ := hq
  have pm : (eo :: w).Perm (w ++ [eo]) := (List.perm_append_singleton eo w).symm
  have hS : va_S A s.heap s.heap [] := va_S.rf
  have hPc : va_P D vwCl w s.heap := hP.mem (fun x hx => pm.mem_iff.mpr (List.mem_append_left _ hx))
  have hDc : va_D A w := (hD.perm pm).left
  have hFc := lw_free hDc hS hA
  refine vx_calli (vx_runV (As := As) (rest := rest) S9 hM cw ⟨fun a U g mk z => by obtain ⟨q0, q2, qP, qK, qD, qE⟩ := z; exact ⟨q0, q2, qP, va_K.moved (u := U) (U := U.calling g mk a) (Vm.Alike.refl U.vm) qK, qD, qE.call⟩, va_recv hK hPc (ci := 11) (q0 := 0) rfl hq, fun U hU9 hW => ⟨rfl, by rw [hU9], by rw [hU9]; exact hPc, va_K.moved hW.alike hK, hDc.weaken (fun _ _ _ _ => trivial), by rw [hU9]; exact (hE.narrow hFc).warm hW⟩⟩ rfl hn hsize rfl hW hdg hf) hS (fun x _ h => hFc x h) hFc (fun x _ h => hFc x h) (fun E ce q9 u t H1 locs1 ht hvm hw hB hz1 hk1 hS1 hc1 hc2 hc3 => ?_) (fun r u t H1 locs1 ht hvm hw hB hz1 hk1 hS1 => ?_)
  · obtain ⟨hPE, hP1, hD1, hz, hs⟩ := hB
    rw [ht] at hP1 hz hs
    obtain ⟨hP2, hD2⟩ := frameG pm (ws' := eo :: u.2.2.2) (List.perm_append_singleton eo u.2.2.2).symm hP hD hk1 hFc hP1 hD1
    exact kx E ce q9 u H1 locs1 hw hPE hP2 hD2 hS1 hz hs hc1 hc2 hc3
  · obtain ⟨hP1, hD1, hz, hs⟩ := hB
    rw [ht] at hP1 hz hs
    obtain ⟨hP2, hD2⟩ := frameG pm (ws' := eo :: u.2.2.2) (List.perm_append_singleton eo u.2.2.2).symm hP hD hk1 hFc hP1 hD1
    exact kk r u H1 locs1 hw hP2 hD2 hS1 hz hs
theorem lawH_i {p : Program} {l : Launch} {e : Env} {R : Room} {s : State} {m : MethodId} {args : Array Value} {below : List Frame} {meth : Method} {c : Code} {H : Heap} {locs : List Loc} {cells slots : Nat} {Q : State → Prop} {cc : ByteArray} {nL : Nat} {Ts : List Cond} {own : String} {pc : Nat} {ls : Array Slot} {A : Nat → Prop} {D : va_G} {τ : List (ClassId × FieldType)} {y : MethodName} {ws : List Cond} {rm : Room} {mc ms n index maxL : Nat} {bytes : ByteArray} {ret : Option FieldType} {As rest : List Value} {Fc Fs : Nat} {w v : va_W} {o : Nat} {kR : ClassId} {g0 : Nat → Int64} {hh : List (Nat × Nat × Nat × Nat)} {post : Int32 → (LT × Nat × Nat × va_W × (Nat → Int64)) → Prop} (S9 : CallFix p m c cc nL s args Ts own)
    (hM : Met l y ws rm (va_Pc As (fun U => U.heap.size = H.size ∧ va_P D vwCl ((o, .inl (kR, 1, .inr (.inl g0))) :: w) U.heap ∧ va_K D vwCl τ U ∧ va_D (fun _ => True) ((o, .inl (kR, 1, .inr (.inl g0))) :: w) ∧ CE (va_A ((o, .inl (kR, 1, .inr (.inl g0))) :: w) H.size) U U.heap ∧ NcE U)) (va_Qi post (fun u t => va_P D vwCl ((o, .inl (kR, 1, .inr (.inl u.2.2.2.2))) :: u.2.2.2.1) t.heap ∧ va_D (va_A ((o, .inl (kR, 1, .inr (.inl g0))) :: w) H.size) ((o, .inl (kR, 1, .inr (.inl u.2.2.2.2))) :: u.2.2.2.1) ∧ t.heap.size + Fc ≤ H.size + u.2.1 + 1000 ∧ nS H.size t.heap + Fs ≤ u.2.2.1 + 9000) (va_A ((o, .inl (kR, 1, .inr (.inl g0))) :: w) H.size)) mc ms (va_A ((o, .inl (kR, 1, .inr (.inl g0))) :: w) H.size))
    (cw : vx_CSW R s args own index y bytes maxL ret hh ws rm mc ms n) (hK : va_K D vwCl τ s) (hE : CE A s s.heap) (hN : NcE s) (hA : ∀ q : Nat, s.heap.size ≤ q → A q) (hP : va_P D vwCl ((o, .inl (kR, 1, .inr (.inl g0))) :: (w ++ v)) H) (hD : va_D A ((o, .inl (kR, 1, .inr (.inl g0))) :: (w ++ v))) (hS : va_S A s.heap H locs)
    (hn : As.length = n) (hsize : ls.size = nL) (hW : 2 * (F0 m pc ls (As.reverse ++ rest)).monitorRoom + (rest.map fun v => v.category).sum ≤ 8) (hdg : decode cc pc = .ok (.invokestatic index, 3)) (hf : cells + mc ≤ R.cells ∧ slots + ms ≤ R.slots)
    (kk : ∀ (r : Int32) (u : (LT × Nat × Nat × va_W × (Nat → Int64))) (H1 : Heap) (locs1 : List Loc), post r u → va_P D vwCl ((o, .inl (kR, 1, .inr (.inl u.2.2.2.2))) :: (u.2.2.2.1 ++ v)) H1 → va_D A ((o, .inl (kR, 1, .inr (.inl u.2.2.2.2))) :: (u.2.2.2.1 ++ v)) → va_S A s.heap H1 locs1 → H1.size + Fc ≤ H.size + u.2.1 + 1000 → nS s.heap.size H1 + Fs ≤ nS s.heap.size H + u.2.2.1 + 9000 → W p l e R s m args below meth c H1 locs1 (cells + mc) (slots + ms) Q (F0 m (pc + 3) ls (.int r :: rest))) :
    W p l e R s m args below meth c H locs cells slots Q (F0 m pc ls (As.reverse ++ rest)) := by
  have pm : ((o, .inl (kR, 1, .inr (.inl g0))) :: (w ++ v) : va_W).Perm (((o, .inl (kR, 1, .inr (.inl g0))) :: w) ++ v) := List.Perm.refl _
  have hPc : va_P D vwCl ((o, .inl (kR, 1, .inr (.inl g0))) :: w) H := hP.mem (fun x hx => pm.mem_iff.mpr (List.mem_append_left _ hx))
  have hDc : va_D A ((o, .inl (kR, 1, .inr (.inl g0))) :: w) := (hD.perm pm).left
  have hFc := lw_free hDc hS hA
  refine va_calli (vx_runSW (As := As) (rest := rest) S9 (Met.sI hM H) cw ⟨fun a U g mk z => by obtain ⟨q0, q1, q2, qP, qK, qD, qE, qN⟩ := z; exact ⟨q0, q1, q2, qP, va_K.moved (u := U) (U := U.calling g mk a) (Vm.Alike.refl U.vm) qK, qD, qE.call, NcE.moved (U := U) (V := U.calling g mk a) (Vm.Alike.refl U.vm) qN⟩, fun U hU9 hW => ⟨rfl, hU9, by rw [hU9], by rw [hU9]; exact hPc, va_K.moved hW.alike hK, hDc.weaken (fun _ _ _ _ => trivial), by rw [hU9]; exact ((hE.kept (fun a h1 h2 => hS.2.1 a h1 h2)).narrow hFc).warm hW, hN.moved hW.alike⟩⟩ rfl hn hsize rfl hW hdg hf) hS (fun x _ h => hFc x h) hFc (fun r u t H1 locs ht hvm hw hB hz1 hk1 hS1 => ?_)
  obtain ⟨⟨hP1, hD1, hz, hs⟩, hK9⟩ := hB
  rw [ht] at hP1 hz hs hK9
  obtain ⟨hP2, hD2⟩ := frameG pm (ws' := (o, .inl (kR, 1, .inr (.inl u.2.2.2.2))) :: (u.2.2.2.1 ++ v)) (List.Perm.refl _) hP hD hk1 hFc hP1 hD1
  exact kk r u H1 locs hw hP2 hD2 hS1 hz (by have := hK9.n hS.1; omega)
theorem updL_0 {g : Nat → Int64} {x : Int64} : vp_updL g (0 : Int32).toNatClampNeg x 0 = x := by
  unfold vp_updL
  exact if_pos (by decide)
/-- two that tell of three ways tell of the same one -/
theorem lw3 {C : Prop} {n m K : Int} {P1 P2 P3 Q1 Q2 Q3 : Prop} (hn : n = m) (h : (¬ C ∧ P1) ∨ ((C ∧ n = K) ∧ P2) ∨ ((C ∧ n < K) ∧ P3)) (h' : (¬ C ∧ Q1) ∨ ((C ∧ m = K) ∧ Q2) ∨ ((C ∧ m < K) ∧ Q3)) : (P1 ∧ Q1) ∨ (P2 ∧ Q2) ∨ (P3 ∧ Q3) := by
  subst hn
  rcases h with ⟨c, a⟩ | ⟨⟨c, e⟩, a⟩ | ⟨⟨c, e⟩, a⟩
  · rcases h' with ⟨c2, a2⟩ | ⟨⟨c2, e2⟩, a2⟩ | ⟨⟨c2, e2⟩, a2⟩
    · exact Or.inl ⟨a, a2⟩
    · exact absurd c2 c
    · exact absurd c2 c
  · rcases h' with ⟨c2, a2⟩ | ⟨⟨c2, e2⟩, a2⟩ | ⟨⟨c2, e2⟩, a2⟩
    · exact absurd c c2
    · exact Or.inr (Or.inl ⟨a, a2⟩)
    · exact absurd e2 (by omega)
  · rcases h' with ⟨c2, a2⟩ | ⟨⟨c2, e2⟩, a2⟩ | ⟨⟨c2, e2⟩, a2⟩
    · exact absurd c c2
    · exact absurd e2 (by omega)
    · exact Or.inr (Or.inr ⟨a, a2⟩)
theorem lw3c {C D : Prop} {P1 P2 P3 Q1 Q2 Q3 : Prop} (h : (¬ C ∧ P1) ∨ ((C ∧ D) ∧ P2) ∨ ((C ∧ ¬ D) ∧ P3)) (h' : (¬ C ∧ Q1) ∨ ((C ∧ D) ∧ Q2) ∨ ((C ∧ ¬ D) ∧ Q3)) : (P1 ∧ Q1) ∨ (P2 ∧ Q2) ∨ (C ∧ P3 ∧ Q3) := by
  rcases h with ⟨c, a⟩ | ⟨⟨c, e⟩, a⟩ | ⟨⟨c, e⟩, a⟩
  · rcases h' with ⟨c2, a2⟩ | ⟨⟨c2, e2⟩, a2⟩ | ⟨⟨c2, e2⟩, a2⟩
    · exact Or.inl ⟨a, a2⟩
    · exact absurd c2 c
    · exact absurd c2 c
  · rcases h' with ⟨c2, a2⟩ | ⟨⟨c2, e2⟩, a2⟩ | ⟨⟨c2, e2⟩, a2⟩
    · exact absurd c c2
    · exact Or.inr (Or.inl ⟨a, a2⟩)
    · exact absurd e e2
  · rcases h' with ⟨c2, a2⟩ | ⟨⟨c2, e2⟩, a2⟩ | ⟨⟨c2, e2⟩, a2⟩
    · exact absurd c c2
    · exact absurd e2 e
    · exact Or.inr (Or.inr ⟨c, a, a2⟩)
theorem lw2 {n m : Int} {P1 P2 Q1 Q2 : Prop} (hn : n = m) (h : (n = 0 ∧ P1) ∨ (0 < n ∧ P2)) (h' : (m = 0 ∧ Q1) ∨ (0 < m ∧ Q2)) : (P1 ∧ Q1) ∨ (P2 ∧ Q2) := by
  subst hn
  rcases h with ⟨c, a⟩ | ⟨c, a⟩
  · rcases h' with ⟨c2, a2⟩ | ⟨c2, a2⟩
    · exact Or.inl ⟨a, a2⟩
    · exact absurd c2 (by omega)
  · rcases h' with ⟨c2, a2⟩ | ⟨c2, a2⟩
    · exact absurd c2 (by omega)
    · exact Or.inr ⟨a, a2⟩
/-- a number of the script -/
theorem lw_arg {p : Program} {l : Launch} {e : Env} {R : Room} {s : State} {m : MethodId} {args : Array Value} {below : List Frame} {meth : Method} {c : Code} {H : Heap} {locs : List Loc} {cells slots : Nat} {Q : State → Prop} {cc : ByteArray} {pc : Nat} {ls : Array Slot} {rest : List Value} {A : Nat → Prop} {b L j : Nat} {xs : Nat → Int32} (hx : p.tables.exec = Jvm.exec) (hb : c.code = cc) (hX : va_X b L xs s s.heap) (hbl : b < s.heap.size) (hbA : ¬ A b) (hS : va_S A s.heap H locs) (hl0 : ls[0]? = some (.val (.ref b))) (hl4 : ls[4]? = some (.val (.int (nI j)))) (k : Nat) {kI : Int} (hj : j + k < L) (hL : L ≤ 384) (hk : Int32.ofInt kI = nI k)
    (d0 : decode cc pc = .ok (.aload_n 0, 1)) (d1 : decode cc (pc + 1) = .ok (.iload 4, 2)) (d3 : decode cc (pc + 1 + 2) = .ok (.iconst kI, 1)) (d4 : decode cc (pc + 1 + 2 + 1) = .ok (.iadd, 1)) (d5 : decode cc (pc + 1 + 2 + 1 + 1) = .ok (.iaload, 1))
    (kk : W p l e R s m args below meth c H locs cells slots Q (F0 m (pc + 1 + 2 + 1 + 1 + 1) ls (.int (xs (j + k)) :: rest))) : W p l e R s m args below meth c H locs cells slots Q (F0 m pc ls rest) := by
  refine lv_aload_n hx hb d0 rfl hl0 ?_
  refine lv_iload hx hb d1 hl4 ?_
  refine lv_iconst (v := nI k) hx hb d3 hk ?_
  refine lv_iadd hx hb d4 ?_
  have e9 : nI j + nI k = nI (j + k) := nI_add j k
  rw [e9]
  have e8 : (nI (j + k)).toNatClampNeg = j + k := nI_clamp (by omega)
  refine va_sld hx hb hX hbl hbA hS (i := nI (j + k)) ?_ d5 ?_
  · rintro (h | h)
    · exact absurd (toI_lt h (nI_toInt (n := j + k) (by omega)) (show (0 : Int32).toInt = 0 by decide)) (by omega)
    · rw [e8] at h; omega
  · rw [e8]; exact kk
end
section
theorem ClsI.recv {kX : Nat → ClassId} {kT : Nat → ClassId} {kM : Nat → ClassId} {kV : Nat → ClassId} {kC : Nat → ClassId} {kN : Nat → ClassId} {kJ : Nat → ClassId} {kL : Nat → ClassId} {kF : Nat → ClassId} {kO : Nat → ClassId} {kQ : Nat → ClassId} {kG : Nat → ClassId} {kw : ClassId} {q : Nat} {L : LT} {Fc Fs : Nat} {w : va_W} (h : ClsI kX kT kM kV kC kN kJ kL kF kO kQ kG kw q L Fc Fs w) : ∃ fs, w[0]? = some (q, .inr (11, fs)) := ClsI_z (P := fun q _ _ _ w => ∃ fs, w[0]? = some (q, .inr (11, fs))) (by intros; exact ⟨_, rfl⟩) h
theorem RefI.recv {k : Nat → ClassId} {q : Nat} {T : TT} {th : Int32} {w : va_W} (h : RefI k q T th w) : ∃ fs, w[0]? = some (q, .inr (12, fs)) := by
  obtain ⟨a, vi, vj, vF, vG, mg, vn, mr, gq, dn, ar, hn, ru, cl, tp, nd, pn, dO, _, _, _, _, rfl⟩ := h
  exact ⟨_, rfl⟩
theorem va_K.mem {D : va_G} {cl : List vw_C} {tys tys2 : List (ClassId × FieldType)} {U : State} (h : va_K D cl tys U) (hs : ∀ q, q ∈ tys2 → q ∈ tys) : va_K D cl tys2 U := ⟨h.1, fun k q hk => by
  obtain ⟨i, hi⟩ := List.getElem?_of_mem (hs q (List.mem_of_getElem? hk))
  exact h.2 i q hi⟩
theorem dL_read_0 : decode cL_read 0 = .ok (.aload_n 1, 1) := dk_43 (by decide +kernel)
theorem dL_read_1 : decode cL_read 1 = .ok (.iconst 0, 1) := dk_3 (by decide +kernel)
theorem dL_read_2 : decode cL_read 2 = .ok (.aload_n 0, 1) := dk_42 (by decide +kernel)
theorem dL_read_3 : decode cL_read 3 = .ok (.invokevirtual 7, 3) := dk_182 (by decide +kernel)
theorem dL_read_6 : decode cL_read 6 = .ok (.i2l, 1) := dk_133 (by decide +kernel)
theorem dL_read_7 : decode cL_read 7 = .ok (.lastore, 1) := dk_80 (by decide +kernel)
theorem dL_read_8 : decode cL_read 8 = .ok (.goto 6, 3) := dk_167 (by decide +kernel)
theorem dL_read_11 : decode cL_read 11 = .ok (.astore_n 2, 1) := dk_77 (by decide +kernel)
theorem dL_read_12 : decode cL_read 12 = .ok (.iconst 1, 1) := dk_4 (by decide +kernel)
theorem dL_read_13 : decode cL_read 13 = .ok (.ireturn, 1) := dk_172 (by decide +kernel)
theorem dL_read_14 : decode cL_read 14 = .ok (.iconst 0, 1) := dk_3 (by decide +kernel)
theorem dL_read_15 : decode cL_read 15 = .ok (.ireturn, 1) := dk_172 (by decide +kernel)
def wsH_read : List Cond := .codeWith yL_read cL_read 3 (some .int) [(0, 8, 11, 13)] :: ([.classLink RL 13 "java/lang/IllegalArgumentException"] ++ (wsV RL 7 RX11 yX11_read wsU_read))
theorem gdwsH_read : wsH_read.all goodWord = true := gdC (by decide +kernel) (gdA (by decide +kernel) (gdV (by decide +kernel) gdwsU_read))
theorem gIwsH_read : GoodIn wsH_read (wsV RL 7 RX11 yX11_read wsU_read) := goodIn_sub (fun w h => List.mem_cons_of_mem _ (List.mem_append_right _ h)) (gdV (by decide +kernel) gdwsU_read)
set_option maxHeartbeats 4000000 in
set_option maxRecDepth 100000 in
theorem H_read (l : Launch) (hst : l.stackTraces = false) (dC : Nat → ClassId) (dI : Nat → Nat → Nat) (kX : Nat → ClassId) (kT : Nat → ClassId) (kM : Nat → ClassId) (kV : Nat → ClassId) (kC : Nat → ClassId) (kN : Nat → ClassId) (kJ : Nat → ClassId) (kL : Nat → ClassId) (kF : Nat → ClassId) (kO : Nat → ClassId) (kQ : Nat → ClassId) (kG : Nat → ClassId) (kw : ClassId) (q : Nat) (L : LT) (Fc Fs : Nat) (w : va_W) (o : Nat) (kR : ClassId) (g0 : Nat → Int64) (hw : ClsI kX kT kM kV kC kN kJ kL kF kO kQ kG kw q L Fc Fs w) (sz : Nat) : Met l yL_read wsH_read ({ frames := 339, cells := 39027, slots := 608800, locals := 19770 }) (va_Pc [.ref q, .ref o] (fun U => U.heap.size = sz ∧ va_P (dC, dI) vwCl ((o, .inl (kR, 1, .inr (.inl g0))) :: w) U.heap ∧ va_K (dC, dI) vwCl ((kR, .long) :: (tX kX ++ (tT kT ++ (tM kM ++ (tV kV ++ (tC kC ++ (tN kN ++ (tJ kJ ++ (tL kL ++ (tF kF ++ (tO kO ++ (tQ kQ ++ (tG kG ++ (tW kw)))))))))))))) U ∧ va_D (fun _ => True) ((o, .inl (kR, 1, .inr (.inl g0))) :: w) ∧ CE (va_A ((o, .inl (kR, 1, .inr (.inl g0))) :: w) sz) U U.heap ∧ NcE U)) (va_Qi (fun (r : Int32) (u : (LT × Nat × Nat × va_W × (Nat → Int64))) => ClsI kX kT kM kV kC kN kJ kL kF kO kQ kG kw q u.1 u.2.1 u.2.2.1 u.2.2.2.1 ∧ (u.1 = L)) (fun u t => va_P (dC, dI) vwCl ((o, .inl (kR, 1, .inr (.inl u.2.2.2.2))) :: u.2.2.2.1) t.heap ∧ va_D (va_A ((o, .inl (kR, 1, .inr (.inl g0))) :: w) sz) ((o, .inl (kR, 1, .inr (.inl u.2.2.2.2))) :: u.2.2.2.1) ∧ t.heap.size + Fc ≤ sz + u.2.1 + 1000 ∧ nS sz t.heap + Fs ≤ u.2.2.1 + 9000) (va_A ((o, .inl (kR, 1, .inr (.inl g0))) :: w) sz)) 39027 608800 (va_A ((o, .inl (kR, 1, .inr (.inl g0))) :: w) sz) := by
  refine ofWC (hh := [(0, 8, 11, 13)]) (cc := cL_read) (maxL := 3) (ret := (some .int)) (by decide) rfl ?_
  intro p e s m args below meth c s₁ B hml hv
  obtain ⟨rfl, hsz, hP, hK, hD0, hCE, hNc⟩ := hv
  have hx := B.exec
  have hb := B.bytes
  have hr := B.returns
  have hts := atoms_spec (ws := wsH_read) B.pre
  have hown : s.vm.findClass RL = some m.cls := findClass_of_methodNamed B.named
  have hlocks := B.notSynchronized
  have htb : c.exceptionTable.toList = tableOf [(0, 8, 11, 13)] := vx_table (x := yL_read) B (hts _ List.mem_cons_self)
  subst hsz
  have hD := hD0.self (sz := s.heap.size)
  generalize hAe : va_A ((o, .inl (kR, 1, .inr (.inl g0))) :: w) s.heap.size = A at hD hCE ⊢
  have hA : ∀ q : Nat, s.heap.size ≤ q → A q := fun q h => by rw [← hAe]; exact Or.inr h
  have hl := lv_entry ([.ref q, .ref o]) (n := 3) (Nat.le_of_ble_eq_true rfl)
  rw [lg_entry_eq]
  generalize (lg_sl ([.ref q, .ref o]) ++ List.replicate (3 - (lg_sl ([.ref q, .ref o])).length) Slot.unset).toArray = ls at hl ⊢
  have hl : lv_has ls 3 [(0, .ref q), (1, .ref o)] := hl
  refine lv_aload_n hx hb dL_read_0 rfl (lv_at hl 1 rfl) ?_
  refine lv_iconst (v := 0) hx hb dL_read_1 (by decide) ?_
  refine lv_aload_n hx hb dL_read_2 rfl (lv_at hl 0 rfl) ?_
  refine lawX_i (As := []) (rest := [.int 0, .ref o]) ⟨hx, hb, hml, hown, hts⟩ (U_read l hst dC dI kX kT kM kV kC kN kJ kL kF kO kQ kG kw q L Fc Fs w hw s.heap.size) (cwV 0 hts gIwsH_read rfl rfl rfl (by decide +kernel) ⟨Nat.le_of_ble_eq_true rfl, Nat.le_of_ble_eq_true rfl⟩) hw.recv (hK.mem (fun _ h => List.mem_cons_of_mem _ h)) hCE hA hP hD rfl hl.1 (lv_room (Nat.le_of_ble_eq_true rfl)) dL_read_3 ⟨by decide +kernel, by decide +kernel⟩ (fun E ce q9 u H1 locs1 hp hPE hP hD hS hz hs hc1 hc2 hc3 => ?_) (fun r u H1 locs1 hp hP hD hS hz hs => ?_)
  · refine vx_widen (k := 39027) (n := 608800) (by decide +kernel) (by decide +kernel) ?_
    have hu := hPE
    subst hu
    refine vx_catch (own := RL) (name := "java/lang/IllegalArgumentException") hown [] ⟨0, 8, 11, 13⟩ [] (by rw [htb]; rfl) (fun z hz => absurd hz List.not_mem_nil) (by decide) (by decide) (hts (.classLink RL 13 "java/lang/IllegalArgumentException") (by decide +kernel)) (va_Nw.use rfl (hCE.2.2.1.2.2.1 (.castable "java/lang/IllegalArgumentException" "java/lang/IllegalArgumentException") (by decide +kernel))) hc1 hc2 hc3 ?_
    refine lv_astore_n hx hb dL_read_11 rfl hl (by decide) rfl (fun ls (hl : lv_has ls _ ([(2, .ref q9), (0, .ref q), (1, .ref o)])) => ?_)
    refine lv_iconst (v := 1) hx hb dL_read_12 (by decide) ?_
    exact W.iret (v := 1) hx hb hr (fun t ht hW => ⟨⟨1, (u.1, u.2.1, u.2.2.1, u.2.2.2, g0), rfl, hp, by rw [ht]; exact hP, hD, by rw [ht]; exact hz, by rw [ht]; exact hs⟩, hS.F ht⟩) hS.2.2 dL_read_13
  · refine W.known (fun z1 z2 => ?_)
    have zS := hS.1
    refine W.tight (cells2 := min 39027 (u.2.1 + 1000 - Fc)) (slots2 := min 608800 (u.2.2.1 + 9000 - Fs)) (by omega) (by omega) ?_
    refine lv_i2l (v := r.toInt64) hx hb dL_read_6 rfl ?_
    refine va_last hx hb hK hP hD hS 0 0 rfl rfl (show ¬ ((0 : Int32) < 0 ∨ 1 ≤ (0 : Int32).toNatClampNeg) by decide) dL_read_7 (fun H2 locs2 hP hD hS => ?_)
    refine lv_goto (tgt := 14) hx hb dL_read_8 (by decide) ?_
    refine lv_iconst (v := 0) hx hb dL_read_14 (by decide) ?_
    refine W.known (fun z3 z4 => ?_)
    refine W.widen (k := 39027) (n := 608800) (Nat.min_le_left _ _) (Nat.min_le_left _ _) ?_
    have z5 : H2.size + Fc ≤ s.heap.size + u.2.1 + 1000 := by omega
    have z6 : nS s.heap.size H2 + Fs ≤ u.2.2.1 + 9000 := by omega
    exact W.iret (v := 0) hx hb hr (fun t ht hW => ⟨⟨0, (u.1, u.2.1, u.2.2.1, u.2.2.2, vp_updL g0 (0 : Int32).toNatClampNeg r.toInt64), rfl, hp, by rw [ht]; exact hP, hD, by rw [ht]; exact z5, by rw [ht]; exact z6⟩, hS.F ht⟩) hS.2.2 dL_read_15
theorem dL_variable_0 : decode cL_variable 0 = .ok (.aload_n 3, 1) := dk_45 (by decide +kernel)
theorem dL_variable_1 : decode cL_variable 1 = .ok (.iconst 0, 1) := dk_3 (by decide +kernel)
theorem dL_variable_2 : decode cL_variable 2 = .ok (.aload_n 0, 1) := dk_42 (by decide +kernel)
theorem dL_variable_3 : decode cL_variable 3 = .ok (.iload_n 1, 1) := dk_27 (by decide +kernel)
theorem dL_variable_4 : decode cL_variable 4 = .ok (.iload_n 2, 1) := dk_28 (by decide +kernel)
theorem dL_variable_5 : decode cL_variable 5 = .ok (.invokevirtual 15, 3) := dk_182 (by decide +kernel)
theorem dL_variable_8 : decode cL_variable 8 = .ok (.i2l, 1) := dk_133 (by decide +kernel)
theorem dL_variable_9 : decode cL_variable 9 = .ok (.lastore, 1) := dk_80 (by decide +kernel)
theorem dL_variable_10 : decode cL_variable 10 = .ok (.goto 7, 3) := dk_167 (by decide +kernel)
theorem dL_variable_13 : decode cL_variable 13 = .ok (.astore 4, 2) := dk_58 (by decide +kernel)
theorem dL_variable_15 : decode cL_variable 15 = .ok (.iconst 1, 1) := dk_4 (by decide +kernel)
theorem dL_variable_16 : decode cL_variable 16 = .ok (.ireturn, 1) := dk_172 (by decide +kernel)
theorem dL_variable_17 : decode cL_variable 17 = .ok (.iconst 0, 1) := dk_3 (by decide +kernel)
theorem dL_variable_18 : decode cL_variable 18 = .ok (.ireturn, 1) := dk_172 (by decide +kernel)
def wsH_variable : List Cond := .codeWith yL_variable cL_variable 5 (some .int) [(0, 10, 13, 19)] :: ([.classLink RL 19 "java/lang/IndexOutOfBoundsException"] ++ (wsV RL 15 RX11 yX11_variable wsU_variable))
theorem gdwsH_variable : wsH_variable.all goodWord = true := gdC (by decide +kernel) (gdA (by decide +kernel) (gdV (by decide +kernel) gdwsU_variable))
theorem gIwsH_variable : GoodIn wsH_variable (wsV RL 15 RX11 yX11_variable wsU_variable) := goodIn_sub (fun w h => List.mem_cons_of_mem _ (List.mem_append_right _ h)) (gdV (by decide +kernel) gdwsU_variable)
set_option maxHeartbeats 4000000 in
set_option maxRecDepth 100000 in
theorem H_variable (l : Launch) (hst : l.stackTraces = false) (dC : Nat → ClassId) (dI : Nat → Nat → Nat) (kX : Nat → ClassId) (kT : Nat → ClassId) (kM : Nat → ClassId) (kV : Nat → ClassId) (kC : Nat → ClassId) (kN : Nat → ClassId) (kJ : Nat → ClassId) (kL : Nat → ClassId) (kF : Nat → ClassId) (kO : Nat → ClassId) (kQ : Nat → ClassId) (kG : Nat → ClassId) (kw : ClassId) (q : Nat) (L : LT) (Fc Fs : Nat) (w : va_W) (p1 : Int32) (p2 : Int32) (o : Nat) (kR : ClassId) (g0 : Nat → Int64) (hw : ClsI kX kT kM kV kC kN kJ kL kF kO kQ kG kw q L Fc Fs w) (sz : Nat) : Met l yL_variable wsH_variable ({ frames := 7, cells := 1, slots := 6, locals := 103 }) (va_Pc [.ref q, .int p1, .int p2, .ref o] (fun U => U.heap.size = sz ∧ va_P (dC, dI) vwCl ((o, .inl (kR, 1, .inr (.inl g0))) :: w) U.heap ∧ va_K (dC, dI) vwCl ((kR, .long) :: (tX kX ++ (tT kT ++ (tM kM ++ (tV kV ++ (tC kC ++ (tN kN ++ (tJ kJ ++ (tL kL ++ (tF kF ++ (tO kO ++ (tQ kQ ++ (tG kG ++ (tW kw)))))))))))))) U ∧ va_D (fun _ => True) ((o, .inl (kR, 1, .inr (.inl g0))) :: w) ∧ CE (va_A ((o, .inl (kR, 1, .inr (.inl g0))) :: w) sz) U U.heap ∧ NcE U)) (va_Qi (fun (r : Int32) (u : (LT × Nat × Nat × va_W × (Nat → Int64))) => ClsI kX kT kM kV kC kN kJ kL kF kO kQ kG kw q u.1 u.2.1 u.2.2.1 u.2.2.2.1 ∧ (u.1 = L)) (fun u t => va_P (dC, dI) vwCl ((o, .inl (kR, 1, .inr (.inl u.2.2.2.2))) :: u.2.2.2.1) t.heap ∧ va_D (va_A ((o, .inl (kR, 1, .inr (.inl g0))) :: w) sz) ((o, .inl (kR, 1, .inr (.inl u.2.2.2.2))) :: u.2.2.2.1) ∧ t.heap.size + Fc ≤ sz + u.2.1 + 1000 ∧ nS sz t.heap + Fs ≤ u.2.2.1 + 9000) (va_A ((o, .inl (kR, 1, .inr (.inl g0))) :: w) sz)) 1 6 (va_A ((o, .inl (kR, 1, .inr (.inl g0))) :: w) sz) := by
  refine ofWC (hh := [(0, 10, 13, 19)]) (cc := cL_variable) (maxL := 5) (ret := (some .int)) (by decide) rfl ?_
  intro p e s m args below meth c s₁ B hml hv
  obtain ⟨rfl, hsz, hP, hK, hD0, hCE, hNc⟩ := hv
  have hx := B.exec
  have hb := B.bytes
  have hr := B.returns
  have hts := atoms_spec (ws := wsH_variable) B.pre
  have hown : s.vm.findClass RL = some m.cls := findClass_of_methodNamed B.named
  have hlocks := B.notSynchronized
  have htb : c.exceptionTable.toList = tableOf [(0, 10, 13, 19)] := vx_table (x := yL_variable) B (hts _ List.mem_cons_self)
  subst hsz
  have hD := hD0.self (sz := s.heap.size)
  generalize hAe : va_A ((o, .inl (kR, 1, .inr (.inl g0))) :: w) s.heap.size = A at hD hCE ⊢
  have hA : ∀ q : Nat, s.heap.size ≤ q → A q := fun q h => by rw [← hAe]; exact Or.inr h
  have hl := lv_entry ([.ref q, .int p1, .int p2, .ref o]) (n := 5) (Nat.le_of_ble_eq_true rfl)
  rw [lg_entry_eq]
  generalize (lg_sl ([.ref q, .int p1, .int p2, .ref o]) ++ List.replicate (5 - (lg_sl ([.ref q, .int p1, .int p2, .ref o])).length) Slot.unset).toArray = ls at hl ⊢
  have hl : lv_has ls 5 [(0, .ref q), (1, .int p1), (2, .int p2), (3, .ref o)] := hl
  refine lv_aload_n hx hb dL_variable_0 rfl (lv_at hl 3 rfl) ?_
  refine lv_iconst (v := 0) hx hb dL_variable_1 (by decide) ?_
  refine lv_aload_n hx hb dL_variable_2 rfl (lv_at hl 0 rfl) ?_
  refine lv_iload_n hx hb dL_variable_3 rfl (lv_at hl 1 rfl) ?_
  refine lv_iload_n hx hb dL_variable_4 rfl (lv_at hl 2 rfl) ?_
  refine lawX_i (As := [.int p1, .int p2]) (rest := [.int 0, .ref o]) ⟨hx, hb, hml, hown, hts⟩ (U_variable l hst dC dI kX kT kM kV kC kN kJ kL kF kO kQ kG kw q L Fc Fs w p1 p2 hw s.heap.size) (cwV 2 hts gIwsH_variable rfl rfl rfl (by decide +kernel) ⟨Nat.le_of_ble_eq_true rfl, Nat.le_of_ble_eq_true rfl⟩) hw.recv (hK.mem (fun _ h => List.mem_cons_of_mem _ h)) hCE hA hP hD rfl hl.1 (lv_room (Nat.le_of_ble_eq_true rfl)) dL_variable_5 ⟨by decide +kernel, by decide +kernel⟩ (fun E ce q9 u H1 locs1 hp hPE hP hD hS hz hs hc1 hc2 hc3 => ?_) (fun r u H1 locs1 hp hP hD hS hz hs => ?_)
  · refine vx_widen (k := 1) (n := 6) (by decide +kernel) (by decide +kernel) ?_
    have hu := hPE
    subst hu
    refine vx_catch (own := RL) (name := "java/lang/IndexOutOfBoundsException") hown [] ⟨0, 10, 13, 19⟩ [] (by rw [htb]; rfl) (fun z hz => absurd hz List.not_mem_nil) (by decide) (by decide) (hts (.classLink RL 19 "java/lang/IndexOutOfBoundsException") (by decide +kernel)) (va_Nw.use rfl (hCE.2.2.1.2.2.2.1 (.castable "java/lang/IndexOutOfBoundsException" "java/lang/IndexOutOfBoundsException") (by decide +kernel))) hc1 hc2 hc3 ?_
    refine lv_astore hx hb dL_variable_13 hl (by decide) rfl (fun ls (hl : lv_has ls _ ([(4, .ref q9), (0, .ref q), (1, .int p1), (2, .int p2), (3, .ref o)])) => ?_)
    refine lv_iconst (v := 1) hx hb dL_variable_15 (by decide) ?_
    exact W.iret (v := 1) hx hb hr (fun t ht hW => ⟨⟨1, (u.1, u.2.1, u.2.2.1, u.2.2.2, g0), rfl, hp, by rw [ht]; exact hP, hD, by rw [ht]; exact hz, by rw [ht]; exact hs⟩, hS.F ht⟩) hS.2.2 dL_variable_16
  · refine W.known (fun z1 z2 => ?_)
    have zS := hS.1
    refine W.tight (cells2 := min 1 (u.2.1 + 1000 - Fc)) (slots2 := min 6 (u.2.2.1 + 9000 - Fs)) (by omega) (by omega) ?_
    refine lv_i2l (v := r.toInt64) hx hb dL_variable_8 rfl ?_
    refine va_last hx hb hK hP hD hS 0 0 rfl rfl (show ¬ ((0 : Int32) < 0 ∨ 1 ≤ (0 : Int32).toNatClampNeg) by decide) dL_variable_9 (fun H2 locs2 hP hD hS => ?_)
    refine lv_goto (tgt := 17) hx hb dL_variable_10 (by decide) ?_
    refine lv_iconst (v := 0) hx hb dL_variable_17 (by decide) ?_
    refine W.known (fun z3 z4 => ?_)
    refine W.widen (k := 1) (n := 6) (Nat.min_le_left _ _) (Nat.min_le_left _ _) ?_
    have z5 : H2.size + Fc ≤ s.heap.size + u.2.1 + 1000 := by omega
    have z6 : nS s.heap.size H2 + Fs ≤ u.2.2.1 + 9000 := by omega
    exact W.iret (v := 0) hx hb hr (fun t ht hW => ⟨⟨0, (u.1, u.2.1, u.2.2.1, u.2.2.2, vp_updL g0 (0 : Int32).toNatClampNeg r.toInt64), rfl, hp, by rw [ht]; exact hP, hD, by rw [ht]; exact z5, by rw [ht]; exact z6⟩, hS.F ht⟩) hS.2.2 dL_variable_18
theorem dL_row_0 : decode cL_row 0 = .ok (.aload 4, 2) := dk_25 (by decide +kernel)
theorem dL_row_2 : decode cL_row 2 = .ok (.iconst 0, 1) := dk_3 (by decide +kernel)
theorem dL_row_3 : decode cL_row 3 = .ok (.aload_n 0, 1) := dk_42 (by decide +kernel)
theorem dL_row_4 : decode cL_row 4 = .ok (.iload_n 1, 1) := dk_27 (by decide +kernel)
theorem dL_row_5 : decode cL_row 5 = .ok (.iload_n 2, 1) := dk_28 (by decide +kernel)
theorem dL_row_6 : decode cL_row 6 = .ok (.iload_n 3, 1) := dk_29 (by decide +kernel)
theorem dL_row_7 : decode cL_row 7 = .ok (.invokevirtual 21, 3) := dk_182 (by decide +kernel)
theorem dL_row_10 : decode cL_row 10 = .ok (.i2l, 1) := dk_133 (by decide +kernel)
theorem dL_row_11 : decode cL_row 11 = .ok (.lastore, 1) := dk_80 (by decide +kernel)
theorem dL_row_12 : decode cL_row 12 = .ok (.goto 7, 3) := dk_167 (by decide +kernel)
theorem dL_row_15 : decode cL_row 15 = .ok (.astore 5, 2) := dk_58 (by decide +kernel)
theorem dL_row_17 : decode cL_row 17 = .ok (.iconst 1, 1) := dk_4 (by decide +kernel)
theorem dL_row_18 : decode cL_row 18 = .ok (.ireturn, 1) := dk_172 (by decide +kernel)
theorem dL_row_19 : decode cL_row 19 = .ok (.iconst 0, 1) := dk_3 (by decide +kernel)
theorem dL_row_20 : decode cL_row 20 = .ok (.ireturn, 1) := dk_172 (by decide +kernel)
def wsH_row : List Cond := .codeWith yL_row cL_row 6 (some .int) [(0, 12, 15, 19)] :: ([.classLink RL 19 "java/lang/IndexOutOfBoundsException"] ++ (wsV RL 21 RX11 yX11_row wsU_row))
theorem gdwsH_row : wsH_row.all goodWord = true := gdC (by decide +kernel) (gdA (by decide +kernel) (gdV (by decide +kernel) gdwsU_row))
theorem gIwsH_row : GoodIn wsH_row (wsV RL 21 RX11 yX11_row wsU_row) := goodIn_sub (fun w h => List.mem_cons_of_mem _ (List.mem_append_right _ h)) (gdV (by decide +kernel) gdwsU_row)
set_option maxHeartbeats 4000000 in
set_option maxRecDepth 100000 in
theorem H_row (l : Launch) (hst : l.stackTraces = false) (dC : Nat → ClassId) (dI : Nat → Nat → Nat) (kX : Nat → ClassId) (kT : Nat → ClassId) (kM : Nat → ClassId) (kV : Nat → ClassId) (kC : Nat → ClassId) (kN : Nat → ClassId) (kJ : Nat → ClassId) (kL : Nat → ClassId) (kF : Nat → ClassId) (kO : Nat → ClassId) (kQ : Nat → ClassId) (kG : Nat → ClassId) (kw : ClassId) (q : Nat) (L : LT) (Fc Fs : Nat) (w : va_W) (p1 : Int32) (p2 : Int32) (p3 : Int32) (o : Nat) (kR : ClassId) (g0 : Nat → Int64) (hw : ClsI kX kT kM kV kC kN kJ kL kF kO kQ kG kw q L Fc Fs w) (sz : Nat) : Met l yL_row wsH_row ({ frames := 7, cells := 1, slots := 6, locals := 104 }) (va_Pc [.ref q, .int p1, .int p2, .int p3, .ref o] (fun U => U.heap.size = sz ∧ va_P (dC, dI) vwCl ((o, .inl (kR, 1, .inr (.inl g0))) :: w) U.heap ∧ va_K (dC, dI) vwCl ((kR, .long) :: (tX kX ++ (tT kT ++ (tM kM ++ (tV kV ++ (tC kC ++ (tN kN ++ (tJ kJ ++ (tL kL ++ (tF kF ++ (tO kO ++ (tQ kQ ++ (tG kG ++ (tW kw)))))))))))))) U ∧ va_D (fun _ => True) ((o, .inl (kR, 1, .inr (.inl g0))) :: w) ∧ CE (va_A ((o, .inl (kR, 1, .inr (.inl g0))) :: w) sz) U U.heap ∧ NcE U)) (va_Qi (fun (r : Int32) (u : (LT × Nat × Nat × va_W × (Nat → Int64))) => ClsI kX kT kM kV kC kN kJ kL kF kO kQ kG kw q u.1 u.2.1 u.2.2.1 u.2.2.2.1 ∧ (u.1 = L)) (fun u t => va_P (dC, dI) vwCl ((o, .inl (kR, 1, .inr (.inl u.2.2.2.2))) :: u.2.2.2.1) t.heap ∧ va_D (va_A ((o, .inl (kR, 1, .inr (.inl g0))) :: w) sz) ((o, .inl (kR, 1, .inr (.inl u.2.2.2.2))) :: u.2.2.2.1) ∧ t.heap.size + Fc ≤ sz + u.2.1 + 1000 ∧ nS sz t.heap + Fs ≤ u.2.2.1 + 9000) (va_A ((o, .inl (kR, 1, .inr (.inl g0))) :: w) sz)) 1 6 (va_A ((o, .inl (kR, 1, .inr (.inl g0))) :: w) sz) := by
  refine ofWC (hh := [(0, 12, 15, 19)]) (cc := cL_row) (maxL := 6) (ret := (some .int)) (by decide) rfl ?_
  intro p e s m args below meth c s₁ B hml hv
  obtain ⟨rfl, hsz, hP, hK, hD0, hCE, hNc⟩ := hv
  have hx := B.exec
  have hb := B.bytes
  have hr := B.returns
  have hts := atoms_spec (ws := wsH_row) B.pre
  have hown : s.vm.findClass RL = some m.cls := findClass_of_methodNamed B.named
  have hlocks := B.notSynchronized
  have htb : c.exceptionTable.toList = tableOf [(0, 12, 15, 19)] := vx_table (x := yL_row) B (hts _ List.mem_cons_self)
  subst hsz
  have hD := hD0.self (sz := s.heap.size)
  generalize hAe : va_A ((o, .inl (kR, 1, .inr (.inl g0))) :: w) s.heap.size = A at hD hCE ⊢
  have hA : ∀ q : Nat, s.heap.size ≤ q → A q := fun q h => by rw [← hAe]; exact Or.inr h
  have hl := lv_entry ([.ref q, .int p1, .int p2, .int p3, .ref o]) (n := 6) (Nat.le_of_ble_eq_true rfl)
  rw [lg_entry_eq]
  generalize (lg_sl ([.ref q, .int p1, .int p2, .int p3, .ref o]) ++ List.replicate (6 - (lg_sl ([.ref q, .int p1, .int p2, .int p3, .ref o])).length) Slot.unset).toArray = ls at hl ⊢
  have hl : lv_has ls 6 [(0, .ref q), (1, .int p1), (2, .int p2), (3, .int p3), (4, .ref o)] := hl
  refine lv_aload hx hb dL_row_0 (lv_at hl 4 rfl) ?_
  refine lv_iconst (v := 0) hx hb dL_row_2 (by decide) ?_
  refine lv_aload_n hx hb dL_row_3 rfl (lv_at hl 0 rfl) ?_
  refine lv_iload_n hx hb dL_row_4 rfl (lv_at hl 1 rfl) ?_
  refine lv_iload_n hx hb dL_row_5 rfl (lv_at hl 2 rfl) ?_
  refine lv_iload_n hx hb dL_row_6 rfl (lv_at hl 3 rfl) ?_
  refine lawX_i (As := [.int p1, .int p2, .int p3]) (rest := [.int 0, .ref o]) ⟨hx, hb, hml, hown, hts⟩ (U_row l hst dC dI kX kT kM kV kC kN kJ kL kF kO kQ kG kw q L Fc Fs w p1 p2 p3 hw s.heap.size) (cwV 3 hts gIwsH_row rfl rfl rfl (by decide +kernel) ⟨Nat.le_of_ble_eq_true rfl, Nat.le_of_ble_eq_true rfl⟩) hw.recv (hK.mem (fun _ h => List.mem_cons_of_mem _ h)) hCE hA hP hD rfl hl.1 (lv_room (Nat.le_of_ble_eq_true rfl)) dL_row_7 ⟨by decide +kernel, by decide +kernel⟩ (fun E ce q9 u H1 locs1 hp hPE hP hD hS hz hs hc1 hc2 hc3 => ?_) (fun r u H1 locs1 hp hP hD hS hz hs => ?_)
  · refine vx_widen (k := 1) (n := 6) (by decide +kernel) (by decide +kernel) ?_
    have hu := hPE
    subst hu
    refine vx_catch (own := RL) (name := "java/lang/IndexOutOfBoundsException") hown [] ⟨0, 12, 15, 19⟩ [] (by rw [htb]; rfl) (fun z hz => absurd hz List.not_mem_nil) (by decide) (by decide) (hts (.classLink RL 19 "java/lang/IndexOutOfBoundsException") (by decide +kernel)) (va_Nw.use rfl (hCE.2.2.1.2.2.2.1 (.castable "java/lang/IndexOutOfBoundsException" "java/lang/IndexOutOfBoundsException") (by decide +kernel))) hc1 hc2 hc3 ?_
    refine lv_astore hx hb dL_row_15 hl (by decide) rfl (fun ls (hl : lv_has ls _ ([(5, .ref q9), (0, .ref q), (1, .int p1), (2, .int p2), (3, .int p3), (4, .ref o)])) => ?_)
    refine lv_iconst (v := 1) hx hb dL_row_17 (by decide) ?_
    exact W.iret (v := 1) hx hb hr (fun t ht hW => ⟨⟨1, (u.1, u.2.1, u.2.2.1, u.2.2.2, g0), rfl, hp, by rw [ht]; exact hP, hD, by rw [ht]; exact hz, by rw [ht]; exact hs⟩, hS.F ht⟩) hS.2.2 dL_row_18
  · refine W.known (fun z1 z2 => ?_)
    have zS := hS.1
    refine W.tight (cells2 := min 1 (u.2.1 + 1000 - Fc)) (slots2 := min 6 (u.2.2.1 + 9000 - Fs)) (by omega) (by omega) ?_
    refine lv_i2l (v := r.toInt64) hx hb dL_row_10 rfl ?_
    refine va_last hx hb hK hP hD hS 0 0 rfl rfl (show ¬ ((0 : Int32) < 0 ∨ 1 ≤ (0 : Int32).toNatClampNeg) by decide) dL_row_11 (fun H2 locs2 hP hD hS => ?_)
    refine lv_goto (tgt := 19) hx hb dL_row_12 (by decide) ?_
    refine lv_iconst (v := 0) hx hb dL_row_19 (by decide) ?_
    refine W.known (fun z3 z4 => ?_)
    refine W.widen (k := 1) (n := 6) (Nat.min_le_left _ _) (Nat.min_le_left _ _) ?_
    have z5 : H2.size + Fc ≤ s.heap.size + u.2.1 + 1000 := by omega
    have z6 : nS s.heap.size H2 + Fs ≤ u.2.2.1 + 9000 := by omega
    exact W.iret (v := 0) hx hb hr (fun t ht hW => ⟨⟨0, (u.1, u.2.1, u.2.2.1, u.2.2.2, vp_updL g0 (0 : Int32).toNatClampNeg r.toInt64), rfl, hp, by rw [ht]; exact hP, hD, by rw [ht]; exact z5, by rw [ht]; exact z6⟩, hS.F ht⟩) hS.2.2 dL_row_20
theorem dL_goal_0 : decode cL_goal 0 = .ok (.aload 4, 2) := dk_25 (by decide +kernel)
theorem dL_goal_2 : decode cL_goal 2 = .ok (.iconst 0, 1) := dk_3 (by decide +kernel)
theorem dL_goal_3 : decode cL_goal 3 = .ok (.aload_n 0, 1) := dk_42 (by decide +kernel)
theorem dL_goal_4 : decode cL_goal 4 = .ok (.iload_n 1, 1) := dk_27 (by decide +kernel)
theorem dL_goal_5 : decode cL_goal 5 = .ok (.iload_n 2, 1) := dk_28 (by decide +kernel)
theorem dL_goal_6 : decode cL_goal 6 = .ok (.iload_n 3, 1) := dk_29 (by decide +kernel)
theorem dL_goal_7 : decode cL_goal 7 = .ok (.invokevirtual 25, 3) := dk_182 (by decide +kernel)
theorem dL_goal_10 : decode cL_goal 10 = .ok (.i2l, 1) := dk_133 (by decide +kernel)
theorem dL_goal_11 : decode cL_goal 11 = .ok (.lastore, 1) := dk_80 (by decide +kernel)
theorem dL_goal_12 : decode cL_goal 12 = .ok (.goto 7, 3) := dk_167 (by decide +kernel)
theorem dL_goal_15 : decode cL_goal 15 = .ok (.astore 5, 2) := dk_58 (by decide +kernel)
theorem dL_goal_17 : decode cL_goal 17 = .ok (.iconst 1, 1) := dk_4 (by decide +kernel)
theorem dL_goal_18 : decode cL_goal 18 = .ok (.ireturn, 1) := dk_172 (by decide +kernel)
theorem dL_goal_19 : decode cL_goal 19 = .ok (.iconst 0, 1) := dk_3 (by decide +kernel)
theorem dL_goal_20 : decode cL_goal 20 = .ok (.ireturn, 1) := dk_172 (by decide +kernel)
def wsH_goal : List Cond := .codeWith yL_goal cL_goal 6 (some .int) [(0, 12, 15, 19)] :: ([.classLink RL 19 "java/lang/IndexOutOfBoundsException"] ++ (wsV RL 25 RX11 yX11_goal wsU_goal))
theorem gdwsH_goal : wsH_goal.all goodWord = true := gdC (by decide +kernel) (gdA (by decide +kernel) (gdV (by decide +kernel) gdwsU_goal))
theorem gIwsH_goal : GoodIn wsH_goal (wsV RL 25 RX11 yX11_goal wsU_goal) := goodIn_sub (fun w h => List.mem_cons_of_mem _ (List.mem_append_right _ h)) (gdV (by decide +kernel) gdwsU_goal)
set_option maxHeartbeats 4000000 in
set_option maxRecDepth 100000 in
theorem H_goal (l : Launch) (hst : l.stackTraces = false) (dC : Nat → ClassId) (dI : Nat → Nat → Nat) (kX : Nat → ClassId) (kT : Nat → ClassId) (kM : Nat → ClassId) (kV : Nat → ClassId) (kC : Nat → ClassId) (kN : Nat → ClassId) (kJ : Nat → ClassId) (kL : Nat → ClassId) (kF : Nat → ClassId) (kO : Nat → ClassId) (kQ : Nat → ClassId) (kG : Nat → ClassId) (kw : ClassId) (q : Nat) (L : LT) (Fc Fs : Nat) (w : va_W) (p1 : Int32) (p2 : Int32) (p3 : Int32) (o : Nat) (kR : ClassId) (g0 : Nat → Int64) (hw : ClsI kX kT kM kV kC kN kJ kL kF kO kQ kG kw q L Fc Fs w) (sz : Nat) : Met l yL_goal wsH_goal ({ frames := 7, cells := 1, slots := 6, locals := 105 }) (va_Pc [.ref q, .int p1, .int p2, .int p3, .ref o] (fun U => U.heap.size = sz ∧ va_P (dC, dI) vwCl ((o, .inl (kR, 1, .inr (.inl g0))) :: w) U.heap ∧ va_K (dC, dI) vwCl ((kR, .long) :: (tX kX ++ (tT kT ++ (tM kM ++ (tV kV ++ (tC kC ++ (tN kN ++ (tJ kJ ++ (tL kL ++ (tF kF ++ (tO kO ++ (tQ kQ ++ (tG kG ++ (tW kw)))))))))))))) U ∧ va_D (fun _ => True) ((o, .inl (kR, 1, .inr (.inl g0))) :: w) ∧ CE (va_A ((o, .inl (kR, 1, .inr (.inl g0))) :: w) sz) U U.heap ∧ NcE U)) (va_Qi (fun (r : Int32) (u : (LT × Nat × Nat × va_W × (Nat → Int64))) => ClsI kX kT kM kV kC kN kJ kL kF kO kQ kG kw q u.1 u.2.1 u.2.2.1 u.2.2.2.1 ∧ (u.1 = L)) (fun u t => va_P (dC, dI) vwCl ((o, .inl (kR, 1, .inr (.inl u.2.2.2.2))) :: u.2.2.2.1) t.heap ∧ va_D (va_A ((o, .inl (kR, 1, .inr (.inl g0))) :: w) sz) ((o, .inl (kR, 1, .inr (.inl u.2.2.2.2))) :: u.2.2.2.1) ∧ t.heap.size + Fc ≤ sz + u.2.1 + 1000 ∧ nS sz t.heap + Fs ≤ u.2.2.1 + 9000) (va_A ((o, .inl (kR, 1, .inr (.inl g0))) :: w) sz)) 1 6 (va_A ((o, .inl (kR, 1, .inr (.inl g0))) :: w) sz) := by
  refine ofWC (hh := [(0, 12, 15, 19)]) (cc := cL_goal) (maxL := 6) (ret := (some .int)) (by decide) rfl ?_
  intro p e s m args below meth c s₁ B hml hv
  obtain ⟨rfl, hsz, hP, hK, hD0, hCE, hNc⟩ := hv
  have hx := B.exec
  have hb := B.bytes
  have hr := B.returns
  have hts := atoms_spec (ws := wsH_goal) B.pre
  have hown : s.vm.findClass RL = some m.cls := findClass_of_methodNamed B.named
  have hlocks := B.notSynchronized
  have htb : c.exceptionTable.toList = tableOf [(0, 12, 15, 19)] := vx_table (x := yL_goal) B (hts _ List.mem_cons_self)
  subst hsz
  have hD := hD0.self (sz := s.heap.size)
  generalize hAe : va_A ((o, .inl (kR, 1, .inr (.inl g0))) :: w) s.heap.size = A at hD hCE ⊢
  have hA : ∀ q : Nat, s.heap.size ≤ q → A q := fun q h => by rw [← hAe]; exact Or.inr h
  have hl := lv_entry ([.ref q, .int p1, .int p2, .int p3, .ref o]) (n := 6) (Nat.le_of_ble_eq_true rfl)
  rw [lg_entry_eq]
  generalize (lg_sl ([.ref q, .int p1, .int p2, .int p3, .ref o]) ++ List.replicate (6 - (lg_sl ([.ref q, .int p1, .int p2, .int p3, .ref o])).length) Slot.unset).toArray = ls at hl ⊢
  have hl : lv_has ls 6 [(0, .ref q), (1, .int p1), (2, .int p2), (3, .int p3), (4, .ref o)] := hl
  refine lv_aload hx hb dL_goal_0 (lv_at hl 4 rfl) ?_
  refine lv_iconst (v := 0) hx hb dL_goal_2 (by decide) ?_
  refine lv_aload_n hx hb dL_goal_3 rfl (lv_at hl 0 rfl) ?_
  refine lv_iload_n hx hb dL_goal_4 rfl (lv_at hl 1 rfl) ?_
  refine lv_iload_n hx hb dL_goal_5 rfl (lv_at hl 2 rfl) ?_
  refine lv_iload_n hx hb dL_goal_6 rfl (lv_at hl 3 rfl) ?_
  refine lawX_i (As := [.int p1, .int p2, .int p3]) (rest := [.int 0, .ref o]) ⟨hx, hb, hml, hown, hts⟩ (U_goal l hst dC dI kX kT kM kV kC kN kJ kL kF kO kQ kG kw q L Fc Fs w p1 p2 p3 hw s.heap.size) (cwV 3 hts gIwsH_goal rfl rfl rfl (by decide +kernel) ⟨Nat.le_of_ble_eq_true rfl, Nat.le_of_ble_eq_true rfl⟩) hw.recv (hK.mem (fun _ h => List.mem_cons_of_mem _ h)) hCE hA hP hD rfl hl.1 (lv_room (Nat.le_of_ble_eq_true rfl)) dL_goal_7 ⟨by decide +kernel, by decide +kernel⟩ (fun E ce q9 u H1 locs1 hp hPE hP hD hS hz hs hc1 hc2 hc3 => ?_) (fun r u H1 locs1 hp hP hD hS hz hs => ?_)
  · refine vx_widen (k := 1) (n := 6) (by decide +kernel) (by decide +kernel) ?_
    have hu := hPE
    subst hu
    refine vx_catch (own := RL) (name := "java/lang/IndexOutOfBoundsException") hown [] ⟨0, 12, 15, 19⟩ [] (by rw [htb]; rfl) (fun z hz => absurd hz List.not_mem_nil) (by decide) (by decide) (hts (.classLink RL 19 "java/lang/IndexOutOfBoundsException") (by decide +kernel)) (va_Nw.use rfl (hCE.2.2.1.2.2.2.1 (.castable "java/lang/IndexOutOfBoundsException" "java/lang/IndexOutOfBoundsException") (by decide +kernel))) hc1 hc2 hc3 ?_
    refine lv_astore hx hb dL_goal_15 hl (by decide) rfl (fun ls (hl : lv_has ls _ ([(5, .ref q9), (0, .ref q), (1, .int p1), (2, .int p2), (3, .int p3), (4, .ref o)])) => ?_)
    refine lv_iconst (v := 1) hx hb dL_goal_17 (by decide) ?_
    exact W.iret (v := 1) hx hb hr (fun t ht hW => ⟨⟨1, (u.1, u.2.1, u.2.2.1, u.2.2.2, g0), rfl, hp, by rw [ht]; exact hP, hD, by rw [ht]; exact hz, by rw [ht]; exact hs⟩, hS.F ht⟩) hS.2.2 dL_goal_18
  · refine W.known (fun z1 z2 => ?_)
    have zS := hS.1
    refine W.tight (cells2 := min 1 (u.2.1 + 1000 - Fc)) (slots2 := min 6 (u.2.2.1 + 9000 - Fs)) (by omega) (by omega) ?_
    refine lv_i2l (v := r.toInt64) hx hb dL_goal_10 rfl ?_
    refine va_last hx hb hK hP hD hS 0 0 rfl rfl (show ¬ ((0 : Int32) < 0 ∨ 1 ≤ (0 : Int32).toNatClampNeg) by decide) dL_goal_11 (fun H2 locs2 hP hD hS => ?_)
    refine lv_goto (tgt := 19) hx hb dL_goal_12 (by decide) ?_
    refine lv_iconst (v := 0) hx hb dL_goal_19 (by decide) ?_
    refine W.known (fun z3 z4 => ?_)
    refine W.widen (k := 1) (n := 6) (Nat.min_le_left _ _) (Nat.min_le_left _ _) ?_
    have z5 : H2.size + Fc ≤ s.heap.size + u.2.1 + 1000 := by omega
    have z6 : nS s.heap.size H2 + Fs ≤ u.2.2.1 + 9000 := by omega
    exact W.iret (v := 0) hx hb hr (fun t ht hW => ⟨⟨0, (u.1, u.2.1, u.2.2.1, u.2.2.2, vp_updL g0 (0 : Int32).toNatClampNeg r.toInt64), rfl, hp, by rw [ht]; exact hP, hD, by rw [ht]; exact z5, by rw [ht]; exact z6⟩, hS.F ht⟩) hS.2.2 dL_goal_20
theorem dL_write_0 : decode cL_write 0 = .ok (.aload_n 1, 1) := dk_43 (by decide +kernel)
theorem dL_write_1 : decode cL_write 1 = .ok (.iconst 0, 1) := dk_3 (by decide +kernel)
theorem dL_write_2 : decode cL_write 2 = .ok (.aload_n 0, 1) := dk_42 (by decide +kernel)
theorem dL_write_3 : decode cL_write 3 = .ok (.invokevirtual 29, 3) := dk_182 (by decide +kernel)
theorem dL_write_6 : decode cL_write 6 = .ok (.i2l, 1) := dk_133 (by decide +kernel)
theorem dL_write_7 : decode cL_write 7 = .ok (.lastore, 1) := dk_80 (by decide +kernel)
theorem dL_write_8 : decode cL_write 8 = .ok (.goto 6, 3) := dk_167 (by decide +kernel)
theorem dL_write_11 : decode cL_write 11 = .ok (.astore_n 2, 1) := dk_77 (by decide +kernel)
theorem dL_write_12 : decode cL_write 12 = .ok (.iconst 1, 1) := dk_4 (by decide +kernel)
theorem dL_write_13 : decode cL_write 13 = .ok (.ireturn, 1) := dk_172 (by decide +kernel)
theorem dL_write_14 : decode cL_write 14 = .ok (.iconst 0, 1) := dk_3 (by decide +kernel)
theorem dL_write_15 : decode cL_write 15 = .ok (.ireturn, 1) := dk_172 (by decide +kernel)
def wsH_write : List Cond := .codeWith yL_write cL_write 3 (some .int) [(0, 8, 11, 32)] :: ([.classLink RL 32 "java/lang/IllegalStateException"] ++ (wsV RL 29 RX11 yX11_write wsU_write))
theorem gdwsH_write : wsH_write.all goodWord = true := gdC (by decide +kernel) (gdA (by decide +kernel) (gdV (by decide +kernel) gdwsU_write))
theorem gIwsH_write : GoodIn wsH_write (wsV RL 29 RX11 yX11_write wsU_write) := goodIn_sub (fun w h => List.mem_cons_of_mem _ (List.mem_append_right _ h)) (gdV (by decide +kernel) gdwsU_write)
set_option maxHeartbeats 4000000 in
set_option maxRecDepth 100000 in
theorem H_write (l : Launch) (hst : l.stackTraces = false) (dC : Nat → ClassId) (dI : Nat → Nat → Nat) (kX : Nat → ClassId) (kT : Nat → ClassId) (kM : Nat → ClassId) (kV : Nat → ClassId) (kC : Nat → ClassId) (kN : Nat → ClassId) (kJ : Nat → ClassId) (kL : Nat → ClassId) (kF : Nat → ClassId) (kO : Nat → ClassId) (kQ : Nat → ClassId) (kG : Nat → ClassId) (kw : ClassId) (q : Nat) (L : LT) (Fc Fs : Nat) (w : va_W) (o : Nat) (kR : ClassId) (g0 : Nat → Int64) (hw : ClsI kX kT kM kV kC kN kJ kL kF kO kQ kG kw q L Fc Fs w) (sz : Nat) : Met l yL_write wsH_write ({ frames := 9, cells := 13126, slots := 900000, locals := 200 }) (va_Pc [.ref q, .ref o] (fun U => U.heap.size = sz ∧ va_P (dC, dI) vwCl ((o, .inl (kR, 1, .inr (.inl g0))) :: w) U.heap ∧ va_K (dC, dI) vwCl ((kR, .long) :: (tX kX ++ (tT kT ++ (tM kM ++ (tV kV ++ (tC kC ++ (tN kN ++ (tJ kJ ++ (tL kL ++ (tF kF ++ (tO kO ++ (tQ kQ ++ (tG kG ++ (tW kw)))))))))))))) U ∧ va_D (fun _ => True) ((o, .inl (kR, 1, .inr (.inl g0))) :: w) ∧ CE (va_A ((o, .inl (kR, 1, .inr (.inl g0))) :: w) sz) U U.heap ∧ NcE U)) (va_Qi (fun (r : Int32) (u : (LT × Nat × Nat × va_W × (Nat → Int64))) => ClsI kX kT kM kV kC kN kJ kL kF kO kQ kG kw q u.1 u.2.1 u.2.2.1 u.2.2.2.1 ∧ (u.1 = L)) (fun u t => va_P (dC, dI) vwCl ((o, .inl (kR, 1, .inr (.inl u.2.2.2.2))) :: u.2.2.2.1) t.heap ∧ va_D (va_A ((o, .inl (kR, 1, .inr (.inl g0))) :: w) sz) ((o, .inl (kR, 1, .inr (.inl u.2.2.2.2))) :: u.2.2.2.1) ∧ t.heap.size + Fc ≤ sz + u.2.1 + 1000 ∧ nS sz t.heap + Fs ≤ u.2.2.1 + 9000) (va_A ((o, .inl (kR, 1, .inr (.inl g0))) :: w) sz)) 13126 900000 (va_A ((o, .inl (kR, 1, .inr (.inl g0))) :: w) sz) := by
  refine ofWC (hh := [(0, 8, 11, 32)]) (cc := cL_write) (maxL := 3) (ret := (some .int)) (by decide) rfl ?_
  intro p e s m args below meth c s₁ B hml hv
  obtain ⟨rfl, hsz, hP, hK, hD0, hCE, hNc⟩ := hv
  have hx := B.exec
  have hb := B.bytes
  have hr := B.returns
  have hts := atoms_spec (ws := wsH_write) B.pre
  have hown : s.vm.findClass RL = some m.cls := findClass_of_methodNamed B.named
  have hlocks := B.notSynchronized
  have htb : c.exceptionTable.toList = tableOf [(0, 8, 11, 32)] := vx_table (x := yL_write) B (hts _ List.mem_cons_self)
  subst hsz
  have hD := hD0.self (sz := s.heap.size)
  generalize hAe : va_A ((o, .inl (kR, 1, .inr (.inl g0))) :: w) s.heap.size = A at hD hCE ⊢
  have hA : ∀ q : Nat, s.heap.size ≤ q → A q := fun q h => by rw [← hAe]; exact Or.inr h
  have hl := lv_entry ([.ref q, .ref o]) (n := 3) (Nat.le_of_ble_eq_true rfl)
  rw [lg_entry_eq]
  generalize (lg_sl ([.ref q, .ref o]) ++ List.replicate (3 - (lg_sl ([.ref q, .ref o])).length) Slot.unset).toArray = ls at hl ⊢
  have hl : lv_has ls 3 [(0, .ref q), (1, .ref o)] := hl
  refine lv_aload_n hx hb dL_write_0 rfl (lv_at hl 1 rfl) ?_
  refine lv_iconst (v := 0) hx hb dL_write_1 (by decide) ?_
  refine lv_aload_n hx hb dL_write_2 rfl (lv_at hl 0 rfl) ?_
  refine lawX_i (As := []) (rest := [.int 0, .ref o]) ⟨hx, hb, hml, hown, hts⟩ (U_write l hst dC dI kX kT kM kV kC kN kJ kL kF kO kQ kG kw q L Fc Fs w hw s.heap.size) (cwV 0 hts gIwsH_write rfl rfl rfl (by decide +kernel) ⟨Nat.le_of_ble_eq_true rfl, Nat.le_of_ble_eq_true rfl⟩) hw.recv (hK.mem (fun _ h => List.mem_cons_of_mem _ h)) hCE hA hP hD rfl hl.1 (lv_room (Nat.le_of_ble_eq_true rfl)) dL_write_3 ⟨by decide +kernel, by decide +kernel⟩ (fun E ce q9 u H1 locs1 hp hPE hP hD hS hz hs hc1 hc2 hc3 => ?_) (fun r u H1 locs1 hp hP hD hS hz hs => ?_)
  · refine vx_widen (k := 13126) (n := 900000) (by decide +kernel) (by decide +kernel) ?_
    have hu := hPE
    subst hu
    refine vx_catch (own := RL) (name := "java/lang/IllegalStateException") hown [] ⟨0, 8, 11, 32⟩ [] (by rw [htb]; rfl) (fun z hz => absurd hz List.not_mem_nil) (by decide) (by decide) (hts (.classLink RL 32 "java/lang/IllegalStateException") (by decide +kernel)) (va_Nw.use rfl (hCE.2.2.1.2.1 (.castable "java/lang/IllegalStateException" "java/lang/IllegalStateException") (by decide +kernel))) hc1 hc2 hc3 ?_
    refine lv_astore_n hx hb dL_write_11 rfl hl (by decide) rfl (fun ls (hl : lv_has ls _ ([(2, .ref q9), (0, .ref q), (1, .ref o)])) => ?_)
    refine lv_iconst (v := 1) hx hb dL_write_12 (by decide) ?_
    exact W.iret (v := 1) hx hb hr (fun t ht hW => ⟨⟨1, (u.1, u.2.1, u.2.2.1, u.2.2.2, g0), rfl, hp, by rw [ht]; exact hP, hD, by rw [ht]; exact hz, by rw [ht]; exact hs⟩, hS.F ht⟩) hS.2.2 dL_write_13
  · refine W.known (fun z1 z2 => ?_)
    have zS := hS.1
    refine W.tight (cells2 := min 13126 (u.2.1 + 1000 - Fc)) (slots2 := min 900000 (u.2.2.1 + 9000 - Fs)) (by omega) (by omega) ?_
    refine lv_i2l (v := r.toInt64) hx hb dL_write_6 rfl ?_
    refine va_last hx hb hK hP hD hS 0 0 rfl rfl (show ¬ ((0 : Int32) < 0 ∨ 1 ≤ (0 : Int32).toNatClampNeg) by decide) dL_write_7 (fun H2 locs2 hP hD hS => ?_)
    refine lv_goto (tgt := 14) hx hb dL_write_8 (by decide) ?_
    refine lv_iconst (v := 0) hx hb dL_write_14 (by decide) ?_
    refine W.known (fun z3 z4 => ?_)
    refine W.widen (k := 13126) (n := 900000) (Nat.min_le_left _ _) (Nat.min_le_left _ _) ?_
    have z5 : H2.size + Fc ≤ s.heap.size + u.2.1 + 1000 := by omega
    have z6 : nS s.heap.size H2 + Fs ≤ u.2.2.1 + 9000 := by omega
    exact W.iret (v := 0) hx hb hr (fun t ht hW => ⟨⟨0, (u.1, u.2.1, u.2.2.1, u.2.2.2, vp_updL g0 (0 : Int32).toNatClampNeg r.toInt64), rfl, hp, by rw [ht]; exact hP, hD, by rw [ht]; exact z5, by rw [ht]; exact z6⟩, hS.F ht⟩) hS.2.2 dL_write_15
theorem dL_solve_0 : decode cL_solve 0 = .ok (.aload_n 2, 1) := dk_44 (by decide +kernel)
theorem dL_solve_1 : decode cL_solve 1 = .ok (.iconst 0, 1) := dk_3 (by decide +kernel)
theorem dL_solve_2 : decode cL_solve 2 = .ok (.aload_n 0, 1) := dk_42 (by decide +kernel)
theorem dL_solve_3 : decode cL_solve 3 = .ok (.iload_n 1, 1) := dk_27 (by decide +kernel)
theorem dL_solve_4 : decode cL_solve 4 = .ok (.invokevirtual 34, 3) := dk_182 (by decide +kernel)
theorem dL_solve_7 : decode cL_solve 7 = .ok (.ifCond .eq 7, 3) := dk_153 (by decide +kernel)
theorem dL_solve_10 : decode cL_solve 10 = .ok (.lconst 1, 1) := dk_10 (by decide +kernel)
theorem dL_solve_11 : decode cL_solve 11 = .ok (.goto 4, 3) := dk_167 (by decide +kernel)
theorem dL_solve_14 : decode cL_solve 14 = .ok (.lconst 0, 1) := dk_9 (by decide +kernel)
theorem dL_solve_15 : decode cL_solve 15 = .ok (.lastore, 1) := dk_80 (by decide +kernel)
theorem dL_solve_16 : decode cL_solve 16 = .ok (.goto 6, 3) := dk_167 (by decide +kernel)
theorem dL_solve_19 : decode cL_solve 19 = .ok (.astore_n 3, 1) := dk_78 (by decide +kernel)
theorem dL_solve_20 : decode cL_solve 20 = .ok (.iconst 1, 1) := dk_4 (by decide +kernel)
theorem dL_solve_21 : decode cL_solve 21 = .ok (.ireturn, 1) := dk_172 (by decide +kernel)
theorem dL_solve_22 : decode cL_solve 22 = .ok (.iconst 0, 1) := dk_3 (by decide +kernel)
theorem dL_solve_23 : decode cL_solve 23 = .ok (.ireturn, 1) := dk_172 (by decide +kernel)
def wsH_solve : List Cond := .codeWith yL_solve cL_solve 4 (some .int) [(0, 16, 19, 32)] :: ([.classLink RL 32 "java/lang/IllegalStateException"] ++ (wsV RL 34 RX11 yX11_solve wsU_solve))
theorem gdwsH_solve : wsH_solve.all goodWord = true := gdC (by decide +kernel) (gdA (by decide +kernel) (gdV (by decide +kernel) gdwsU_solve))
theorem gIwsH_solve : GoodIn wsH_solve (wsV RL 34 RX11 yX11_solve wsU_solve) := goodIn_sub (fun w h => List.mem_cons_of_mem _ (List.mem_append_right _ h)) (gdV (by decide +kernel) gdwsU_solve)
set_option maxHeartbeats 4000000 in
set_option maxRecDepth 100000 in
theorem H_solve (l : Launch) (hst : l.stackTraces = false) (dC : Nat → ClassId) (dI : Nat → Nat → Nat) (kX : Nat → ClassId) (kT : Nat → ClassId) (kM : Nat → ClassId) (kV : Nat → ClassId) (kC : Nat → ClassId) (kN : Nat → ClassId) (kJ : Nat → ClassId) (kL : Nat → ClassId) (kF : Nat → ClassId) (kO : Nat → ClassId) (kQ : Nat → ClassId) (kG : Nat → ClassId) (kw : ClassId) (q : Nat) (L : LT) (Fc Fs : Nat) (w : va_W) (p1 : Int32) (o : Nat) (kR : ClassId) (g0 : Nat → Int64) (hw : ClsI kX kT kM kV kC kN kJ kL kF kO kQ kG kw q L Fc Fs w) (hb1 : 0 ≤ p1.toInt ∧ p1.toInt ≤ 1) (sz : Nat) : Met l yL_solve wsH_solve ({ frames := 9, cells := 880, slots := 8040, locals := 222 }) (va_Pc [.ref q, .int p1, .ref o] (fun U => U.heap.size = sz ∧ va_P (dC, dI) vwCl ((o, .inl (kR, 1, .inr (.inl g0))) :: w) U.heap ∧ va_K (dC, dI) vwCl ((kR, .long) :: (tX kX ++ (tT kT ++ (tM kM ++ (tV kV ++ (tC kC ++ (tN kN ++ (tJ kJ ++ (tL kL ++ (tF kF ++ (tO kO ++ (tQ kQ ++ (tG kG ++ (tW kw)))))))))))))) U ∧ va_D (fun _ => True) ((o, .inl (kR, 1, .inr (.inl g0))) :: w) ∧ CE (va_A ((o, .inl (kR, 1, .inr (.inl g0))) :: w) sz) U U.heap ∧ NcE U)) (va_Qi (fun (r : Int32) (u : (LT × Nat × Nat × va_W × (Nat → Int64))) => ClsI kX kT kM kV kC kN kJ kL kF kO kQ kG kw q u.1 u.2.1 u.2.2.1 u.2.2.2.1 ∧ (u.1 = L)) (fun u t => va_P (dC, dI) vwCl ((o, .inl (kR, 1, .inr (.inl u.2.2.2.2))) :: u.2.2.2.1) t.heap ∧ va_D (va_A ((o, .inl (kR, 1, .inr (.inl g0))) :: w) sz) ((o, .inl (kR, 1, .inr (.inl u.2.2.2.2))) :: u.2.2.2.1) ∧ t.heap.size + Fc ≤ sz + u.2.1 + 1000 ∧ nS sz t.heap + Fs ≤ u.2.2.1 + 9000) (va_A ((o, .inl (kR, 1, .inr (.inl g0))) :: w) sz)) 880 8040 (va_A ((o, .inl (kR, 1, .inr (.inl g0))) :: w) sz) := by
  refine ofWC (hh := [(0, 16, 19, 32)]) (cc := cL_solve) (maxL := 4) (ret := (some .int)) (by decide) rfl ?_
  intro p e s m args below meth c s₁ B hml hv
  obtain ⟨rfl, hsz, hP, hK, hD0, hCE, hNc⟩ := hv
  have hx := B.exec
  have hb := B.bytes
  have hr := B.returns
  have hts := atoms_spec (ws := wsH_solve) B.pre
  have hown : s.vm.findClass RL = some m.cls := findClass_of_methodNamed B.named
  have hlocks := B.notSynchronized
  have htb : c.exceptionTable.toList = tableOf [(0, 16, 19, 32)] := vx_table (x := yL_solve) B (hts _ List.mem_cons_self)
  subst hsz
  have hD := hD0.self (sz := s.heap.size)
  generalize hAe : va_A ((o, .inl (kR, 1, .inr (.inl g0))) :: w) s.heap.size = A at hD hCE ⊢
  have hA : ∀ q : Nat, s.heap.size ≤ q → A q := fun q h => by rw [← hAe]; exact Or.inr h
  have hl := lv_entry ([.ref q, .int p1, .ref o]) (n := 4) (Nat.le_of_ble_eq_true rfl)
  rw [lg_entry_eq]
  generalize (lg_sl ([.ref q, .int p1, .ref o]) ++ List.replicate (4 - (lg_sl ([.ref q, .int p1, .ref o])).length) Slot.unset).toArray = ls at hl ⊢
  have hl : lv_has ls 4 [(0, .ref q), (1, .int p1), (2, .ref o)] := hl
  refine lv_aload_n hx hb dL_solve_0 rfl (lv_at hl 2 rfl) ?_
  refine lv_iconst (v := 0) hx hb dL_solve_1 (by decide) ?_
  refine lv_aload_n hx hb dL_solve_2 rfl (lv_at hl 0 rfl) ?_
  refine lv_iload_n hx hb dL_solve_3 rfl (lv_at hl 1 rfl) ?_
  refine lawX_i (As := [.int p1]) (rest := [.int 0, .ref o]) ⟨hx, hb, hml, hown, hts⟩ (U_solve l hst dC dI kX kT kM kV kC kN kJ kL kF kO kQ kG kw q L Fc Fs w p1 hw hb1 s.heap.size) (cwV 1 hts gIwsH_solve rfl rfl rfl (by decide +kernel) ⟨Nat.le_of_ble_eq_true rfl, Nat.le_of_ble_eq_true rfl⟩) hw.recv (hK.mem (fun _ h => List.mem_cons_of_mem _ h)) hCE hA hP hD rfl hl.1 (lv_room (Nat.le_of_ble_eq_true rfl)) dL_solve_4 ⟨by decide +kernel, by decide +kernel⟩ (fun E ce q9 u H1 locs1 hp hPE hP hD hS hz hs hc1 hc2 hc3 => ?_) (fun r u H1 locs1 hp hP hD hS hz hs => ?_)
  · refine vx_widen (k := 880) (n := 8040) (by decide +kernel) (by decide +kernel) ?_
    have hu := hPE
    subst hu
    refine vx_catch (own := RL) (name := "java/lang/IllegalStateException") hown [] ⟨0, 16, 19, 32⟩ [] (by rw [htb]; rfl) (fun z hz => absurd hz List.not_mem_nil) (by decide) (by decide) (hts (.classLink RL 32 "java/lang/IllegalStateException") (by decide +kernel)) (va_Nw.use rfl (hCE.2.2.1.2.1 (.castable "java/lang/IllegalStateException" "java/lang/IllegalStateException") (by decide +kernel))) hc1 hc2 hc3 ?_
    refine lv_astore_n hx hb dL_solve_19 rfl hl (by decide) rfl (fun ls (hl : lv_has ls _ ([(3, .ref q9), (0, .ref q), (1, .int p1), (2, .ref o)])) => ?_)
    refine lv_iconst (v := 1) hx hb dL_solve_20 (by decide) ?_
    exact W.iret (v := 1) hx hb hr (fun t ht hW => ⟨⟨1, (u.1, u.2.1, u.2.2.1, u.2.2.2, g0), rfl, hp, by rw [ht]; exact hP, hD, by rw [ht]; exact hz, by rw [ht]; exact hs⟩, hS.F ht⟩) hS.2.2 dL_solve_21
  · refine W.known (fun z1 z2 => ?_)
    have zS := hS.1
    refine W.tight (cells2 := min 880 (u.2.1 + 1000 - Fc)) (slots2 := min 8040 (u.2.2.1 + 9000 - Fs)) (by omega) (by omega) ?_
    refine lv_if_eq (tgt := 14) hx hb dL_solve_7 (by decide) (fun _ => ?_) (fun _ => ?_)
    · refine lv_lconst (v := 0) hx hb dL_solve_14 rfl ?_
      refine va_last hx hb hK hP hD hS 0 0 rfl rfl (show ¬ ((0 : Int32) < 0 ∨ 1 ≤ (0 : Int32).toNatClampNeg) by decide) dL_solve_15 (fun H2 locs2 hP hD hS => ?_)
      refine lv_goto (tgt := 22) hx hb dL_solve_16 (by decide) ?_
      refine lv_iconst (v := 0) hx hb dL_solve_22 (by decide) ?_
      refine W.known (fun z3 z4 => ?_)
      refine W.widen (k := 880) (n := 8040) (Nat.min_le_left _ _) (Nat.min_le_left _ _) ?_
      have z5 : H2.size + Fc ≤ s.heap.size + u.2.1 + 1000 := by omega
      have z6 : nS s.heap.size H2 + Fs ≤ u.2.2.1 + 9000 := by omega
      exact W.iret (v := 0) hx hb hr (fun t ht hW => ⟨⟨0, (u.1, u.2.1, u.2.2.1, u.2.2.2, vp_updL g0 (0 : Int32).toNatClampNeg 0), rfl, hp, by rw [ht]; exact hP, hD, by rw [ht]; exact z5, by rw [ht]; exact z6⟩, hS.F ht⟩) hS.2.2 dL_solve_23
    · refine lv_lconst (v := 1) hx hb dL_solve_10 rfl ?_
      refine lv_goto (tgt := 15) hx hb dL_solve_11 (by decide) ?_
      refine va_last hx hb hK hP hD hS 0 0 rfl rfl (show ¬ ((0 : Int32) < 0 ∨ 1 ≤ (0 : Int32).toNatClampNeg) by decide) dL_solve_15 (fun H2 locs2 hP hD hS => ?_)
      refine lv_goto (tgt := 22) hx hb dL_solve_16 (by decide) ?_
      refine lv_iconst (v := 0) hx hb dL_solve_22 (by decide) ?_
      refine W.known (fun z3 z4 => ?_)
      refine W.widen (k := 880) (n := 8040) (Nat.min_le_left _ _) (Nat.min_le_left _ _) ?_
      have z5 : H2.size + Fc ≤ s.heap.size + u.2.1 + 1000 := by omega
      have z6 : nS s.heap.size H2 + Fs ≤ u.2.2.1 + 9000 := by omega
      exact W.iret (v := 0) hx hb hr (fun t ht hW => ⟨⟨0, (u.1, u.2.1, u.2.2.1, u.2.2.2, vp_updL g0 (0 : Int32).toNatClampNeg 1), rfl, hp, by rw [ht]; exact hP, hD, by rw [ht]; exact z5, by rw [ht]; exact z6⟩, hS.F ht⟩) hS.2.2 dL_solve_23
theorem dL_value_0 : decode cL_value 0 = .ok (.aload_n 2, 1) := dk_44 (by decide +kernel)
theorem dL_value_1 : decode cL_value 1 = .ok (.iconst 0, 1) := dk_3 (by decide +kernel)
theorem dL_value_2 : decode cL_value 2 = .ok (.aload_n 0, 1) := dk_42 (by decide +kernel)
theorem dL_value_3 : decode cL_value 3 = .ok (.iload_n 1, 1) := dk_27 (by decide +kernel)
theorem dL_value_4 : decode cL_value 4 = .ok (.invokevirtual 38, 3) := dk_182 (by decide +kernel)
theorem dL_value_7 : decode cL_value 7 = .ok (.i2l, 1) := dk_133 (by decide +kernel)
theorem dL_value_8 : decode cL_value 8 = .ok (.lastore, 1) := dk_80 (by decide +kernel)
theorem dL_value_9 : decode cL_value 9 = .ok (.goto 9, 3) := dk_167 (by decide +kernel)
theorem dL_value_12 : decode cL_value 12 = .ok (.astore_n 3, 1) := dk_78 (by decide +kernel)
theorem dL_value_13 : decode cL_value 13 = .ok (.iconst 1, 1) := dk_4 (by decide +kernel)
theorem dL_value_14 : decode cL_value 14 = .ok (.ireturn, 1) := dk_172 (by decide +kernel)
theorem dL_value_15 : decode cL_value 15 = .ok (.astore_n 3, 1) := dk_78 (by decide +kernel)
theorem dL_value_16 : decode cL_value 16 = .ok (.iconst 2, 1) := dk_5 (by decide +kernel)
theorem dL_value_17 : decode cL_value 17 = .ok (.ireturn, 1) := dk_172 (by decide +kernel)
theorem dL_value_18 : decode cL_value 18 = .ok (.iconst 0, 1) := dk_3 (by decide +kernel)
theorem dL_value_19 : decode cL_value 19 = .ok (.ireturn, 1) := dk_172 (by decide +kernel)
def wsH_value : List Cond := .codeWith yL_value cL_value 4 (some .int) [(0, 9, 12, 32), (0, 9, 15, 19)] :: ([.classLink RL 32 "java/lang/IllegalStateException", .classLink RL 19 "java/lang/IndexOutOfBoundsException"] ++ (wsV RL 38 RX11 yX11_value wsU_value))
theorem gdwsH_value : wsH_value.all goodWord = true := gdC (by decide +kernel) (gdA (by decide +kernel) (gdV (by decide +kernel) gdwsU_value))
theorem gIwsH_value : GoodIn wsH_value (wsV RL 38 RX11 yX11_value wsU_value) := goodIn_sub (fun w h => List.mem_cons_of_mem _ (List.mem_append_right _ h)) (gdV (by decide +kernel) gdwsU_value)
set_option maxHeartbeats 4000000 in
set_option maxRecDepth 100000 in
theorem H_value (l : Launch) (hst : l.stackTraces = false) (dC : Nat → ClassId) (dI : Nat → Nat → Nat) (kX : Nat → ClassId) (kT : Nat → ClassId) (kM : Nat → ClassId) (kV : Nat → ClassId) (kC : Nat → ClassId) (kN : Nat → ClassId) (kJ : Nat → ClassId) (kL : Nat → ClassId) (kF : Nat → ClassId) (kO : Nat → ClassId) (kQ : Nat → ClassId) (kG : Nat → ClassId) (kw : ClassId) (q : Nat) (L : LT) (Fc Fs : Nat) (w : va_W) (p1 : Int32) (o : Nat) (kR : ClassId) (g0 : Nat → Int64) (hw : ClsI kX kT kM kV kC kN kJ kL kF kO kQ kG kw q L Fc Fs w) (sz : Nat) : Met l yL_value wsH_value ({ frames := 8, cells := 7501, slots := 540000, locals := 134 }) (va_Pc [.ref q, .int p1, .ref o] (fun U => U.heap.size = sz ∧ va_P (dC, dI) vwCl ((o, .inl (kR, 1, .inr (.inl g0))) :: w) U.heap ∧ va_K (dC, dI) vwCl ((kR, .long) :: (tX kX ++ (tT kT ++ (tM kM ++ (tV kV ++ (tC kC ++ (tN kN ++ (tJ kJ ++ (tL kL ++ (tF kF ++ (tO kO ++ (tQ kQ ++ (tG kG ++ (tW kw)))))))))))))) U ∧ va_D (fun _ => True) ((o, .inl (kR, 1, .inr (.inl g0))) :: w) ∧ CE (va_A ((o, .inl (kR, 1, .inr (.inl g0))) :: w) sz) U U.heap ∧ NcE U)) (va_Qi (fun (r : Int32) (u : (LT × Nat × Nat × va_W × (Nat → Int64))) => ClsI kX kT kM kV kC kN kJ kL kF kO kQ kG kw q u.1 u.2.1 u.2.2.1 u.2.2.2.1 ∧ (u.1 = L)) (fun u t => va_P (dC, dI) vwCl ((o, .inl (kR, 1, .inr (.inl u.2.2.2.2))) :: u.2.2.2.1) t.heap ∧ va_D (va_A ((o, .inl (kR, 1, .inr (.inl g0))) :: w) sz) ((o, .inl (kR, 1, .inr (.inl u.2.2.2.2))) :: u.2.2.2.1) ∧ t.heap.size + Fc ≤ sz + u.2.1 + 1000 ∧ nS sz t.heap + Fs ≤ u.2.2.1 + 9000) (va_A ((o, .inl (kR, 1, .inr (.inl g0))) :: w) sz)) 7501 540000 (va_A ((o, .inl (kR, 1, .inr (.inl g0))) :: w) sz) := by
  refine ofWC (hh := [(0, 9, 12, 32), (0, 9, 15, 19)]) (cc := cL_value) (maxL := 4) (ret := (some .int)) (by decide) rfl ?_
  intro p e s m args below meth c s₁ B hml hv
  obtain ⟨rfl, hsz, hP, hK, hD0, hCE, hNc⟩ := hv
  have hx := B.exec
  have hb := B.bytes
  have hr := B.returns
  have hts := atoms_spec (ws := wsH_value) B.pre
  have hown : s.vm.findClass RL = some m.cls := findClass_of_methodNamed B.named
  have hlocks := B.notSynchronized
  have htb : c.exceptionTable.toList = tableOf [(0, 9, 12, 32), (0, 9, 15, 19)] := vx_table (x := yL_value) B (hts _ List.mem_cons_self)
  subst hsz
  have hD := hD0.self (sz := s.heap.size)
  generalize hAe : va_A ((o, .inl (kR, 1, .inr (.inl g0))) :: w) s.heap.size = A at hD hCE ⊢
  have hA : ∀ q : Nat, s.heap.size ≤ q → A q := fun q h => by rw [← hAe]; exact Or.inr h
  have hl := lv_entry ([.ref q, .int p1, .ref o]) (n := 4) (Nat.le_of_ble_eq_true rfl)
  rw [lg_entry_eq]
  generalize (lg_sl ([.ref q, .int p1, .ref o]) ++ List.replicate (4 - (lg_sl ([.ref q, .int p1, .ref o])).length) Slot.unset).toArray = ls at hl ⊢
  have hl : lv_has ls 4 [(0, .ref q), (1, .int p1), (2, .ref o)] := hl
  refine lv_aload_n hx hb dL_value_0 rfl (lv_at hl 2 rfl) ?_
  refine lv_iconst (v := 0) hx hb dL_value_1 (by decide) ?_
  refine lv_aload_n hx hb dL_value_2 rfl (lv_at hl 0 rfl) ?_
  refine lv_iload_n hx hb dL_value_3 rfl (lv_at hl 1 rfl) ?_
  refine lawX_i (As := [.int p1]) (rest := [.int 0, .ref o]) ⟨hx, hb, hml, hown, hts⟩ (U_value l hst dC dI kX kT kM kV kC kN kJ kL kF kO kQ kG kw q L Fc Fs w p1 hw s.heap.size) (cwV 1 hts gIwsH_value rfl rfl rfl (by decide +kernel) ⟨Nat.le_of_ble_eq_true rfl, Nat.le_of_ble_eq_true rfl⟩) hw.recv (hK.mem (fun _ h => List.mem_cons_of_mem _ h)) hCE hA hP hD rfl hl.1 (lv_room (Nat.le_of_ble_eq_true rfl)) dL_value_4 ⟨by decide +kernel, by decide +kernel⟩ (fun E ce q9 u H1 locs1 hp hPE hP hD hS hz hs hc1 hc2 hc3 => ?_) (fun r u H1 locs1 hp hP hD hS hz hs => ?_)
  · refine vx_widen (k := 7501) (n := 540000) (by decide +kernel) (by decide +kernel) ?_
    rcases hPE with hu | hu
    · subst hu
      refine vx_catch (own := RL) (name := "java/lang/IllegalStateException") hown [] ⟨0, 9, 12, 32⟩ [⟨0, 9, 15, 19⟩] (by rw [htb]; rfl) (fun z hz => absurd hz List.not_mem_nil) (by decide) (by decide) (hts (.classLink RL 32 "java/lang/IllegalStateException") (by decide +kernel)) (va_Nw.use rfl (hCE.2.2.1.2.1 (.castable "java/lang/IllegalStateException" "java/lang/IllegalStateException") (by decide +kernel))) hc1 hc2 hc3 ?_
      refine lv_astore_n hx hb dL_value_12 rfl hl (by decide) rfl (fun ls (hl : lv_has ls _ ([(3, .ref q9), (0, .ref q), (1, .int p1), (2, .ref o)])) => ?_)
      refine lv_iconst (v := 1) hx hb dL_value_13 (by decide) ?_
      exact W.iret (v := 1) hx hb hr (fun t ht hW => ⟨⟨1, (u.1, u.2.1, u.2.2.1, u.2.2.2, g0), rfl, hp, by rw [ht]; exact hP, hD, by rw [ht]; exact hz, by rw [ht]; exact hs⟩, hS.F ht⟩) hS.2.2 dL_value_14
    · subst hu
      refine vx_catch (own := RL) (name := "java/lang/IndexOutOfBoundsException") hown [⟨0, 9, 12, 32⟩] ⟨0, 9, 15, 19⟩ [] (by rw [htb]; rfl) (fun z hz => by rw [List.mem_singleton.mp hz]; exact Or.inr ⟨by decide, "java/lang/IllegalStateException", hts (.classLink RL 32 "java/lang/IllegalStateException") (by decide +kernel), hNc.1⟩) (by decide) (by decide) (hts (.classLink RL 19 "java/lang/IndexOutOfBoundsException") (by decide +kernel)) (va_Nw.use rfl (hCE.2.2.1.2.2.2.1 (.castable "java/lang/IndexOutOfBoundsException" "java/lang/IndexOutOfBoundsException") (by decide +kernel))) hc1 hc2 hc3 ?_
      refine lv_astore_n hx hb dL_value_15 rfl hl (by decide) rfl (fun ls (hl : lv_has ls _ ([(3, .ref q9), (0, .ref q), (1, .int p1), (2, .ref o)])) => ?_)
      refine lv_iconst (v := 2) hx hb dL_value_16 (by decide) ?_
      exact W.iret (v := 2) hx hb hr (fun t ht hW => ⟨⟨2, (u.1, u.2.1, u.2.2.1, u.2.2.2, g0), rfl, hp, by rw [ht]; exact hP, hD, by rw [ht]; exact hz, by rw [ht]; exact hs⟩, hS.F ht⟩) hS.2.2 dL_value_17
  · refine W.known (fun z1 z2 => ?_)
    have zS := hS.1
    refine W.tight (cells2 := min 7501 (u.2.1 + 1000 - Fc)) (slots2 := min 540000 (u.2.2.1 + 9000 - Fs)) (by omega) (by omega) ?_
    refine lv_i2l (v := r.toInt64) hx hb dL_value_7 rfl ?_
    refine va_last hx hb hK hP hD hS 0 0 rfl rfl (show ¬ ((0 : Int32) < 0 ∨ 1 ≤ (0 : Int32).toNatClampNeg) by decide) dL_value_8 (fun H2 locs2 hP hD hS => ?_)
    refine lv_goto (tgt := 18) hx hb dL_value_9 (by decide) ?_
    refine lv_iconst (v := 0) hx hb dL_value_18 (by decide) ?_
    refine W.known (fun z3 z4 => ?_)
    refine W.widen (k := 7501) (n := 540000) (Nat.min_le_left _ _) (Nat.min_le_left _ _) ?_
    have z5 : H2.size + Fc ≤ s.heap.size + u.2.1 + 1000 := by omega
    have z6 : nS s.heap.size H2 + Fs ≤ u.2.2.1 + 9000 := by omega
    exact W.iret (v := 0) hx hb hr (fun t ht hW => ⟨⟨0, (u.1, u.2.1, u.2.2.1, u.2.2.2, vp_updL g0 (0 : Int32).toNatClampNeg r.toInt64), rfl, hp, by rw [ht]; exact hP, hD, by rw [ht]; exact z5, by rw [ht]; exact z6⟩, hS.F ht⟩) hS.2.2 dL_value_19
theorem dL_best_0 : decode cL_best 0 = .ok (.aload_n 2, 1) := dk_44 (by decide +kernel)
theorem dL_best_1 : decode cL_best 1 = .ok (.iconst 0, 1) := dk_3 (by decide +kernel)
theorem dL_best_2 : decode cL_best 2 = .ok (.aload_n 0, 1) := dk_42 (by decide +kernel)
theorem dL_best_3 : decode cL_best 3 = .ok (.iload_n 1, 1) := dk_27 (by decide +kernel)
theorem dL_best_4 : decode cL_best 4 = .ok (.invokevirtual 42, 3) := dk_182 (by decide +kernel)
theorem dL_best_7 : decode cL_best 7 = .ok (.i2l, 1) := dk_133 (by decide +kernel)
theorem dL_best_8 : decode cL_best 8 = .ok (.lastore, 1) := dk_80 (by decide +kernel)
theorem dL_best_9 : decode cL_best 9 = .ok (.goto 9, 3) := dk_167 (by decide +kernel)
theorem dL_best_12 : decode cL_best 12 = .ok (.astore_n 3, 1) := dk_78 (by decide +kernel)
theorem dL_best_13 : decode cL_best 13 = .ok (.iconst 1, 1) := dk_4 (by decide +kernel)
theorem dL_best_14 : decode cL_best 14 = .ok (.ireturn, 1) := dk_172 (by decide +kernel)
theorem dL_best_15 : decode cL_best 15 = .ok (.astore_n 3, 1) := dk_78 (by decide +kernel)
theorem dL_best_16 : decode cL_best 16 = .ok (.iconst 2, 1) := dk_5 (by decide +kernel)
theorem dL_best_17 : decode cL_best 17 = .ok (.ireturn, 1) := dk_172 (by decide +kernel)
theorem dL_best_18 : decode cL_best 18 = .ok (.iconst 0, 1) := dk_3 (by decide +kernel)
theorem dL_best_19 : decode cL_best 19 = .ok (.ireturn, 1) := dk_172 (by decide +kernel)
def wsH_best : List Cond := .codeWith yL_best cL_best 4 (some .int) [(0, 9, 12, 32), (0, 9, 15, 19)] :: ([.classLink RL 32 "java/lang/IllegalStateException", .classLink RL 19 "java/lang/IndexOutOfBoundsException"] ++ (wsV RL 42 RX11 yX11_best wsU_best))
theorem gdwsH_best : wsH_best.all goodWord = true := gdC (by decide +kernel) (gdA (by decide +kernel) (gdV (by decide +kernel) gdwsU_best))
theorem gIwsH_best : GoodIn wsH_best (wsV RL 42 RX11 yX11_best wsU_best) := goodIn_sub (fun w h => List.mem_cons_of_mem _ (List.mem_append_right _ h)) (gdV (by decide +kernel) gdwsU_best)
set_option maxHeartbeats 4000000 in
set_option maxRecDepth 100000 in
theorem H_best (l : Launch) (hst : l.stackTraces = false) (dC : Nat → ClassId) (dI : Nat → Nat → Nat) (kX : Nat → ClassId) (kT : Nat → ClassId) (kM : Nat → ClassId) (kV : Nat → ClassId) (kC : Nat → ClassId) (kN : Nat → ClassId) (kJ : Nat → ClassId) (kL : Nat → ClassId) (kF : Nat → ClassId) (kO : Nat → ClassId) (kQ : Nat → ClassId) (kG : Nat → ClassId) (kw : ClassId) (q : Nat) (L : LT) (Fc Fs : Nat) (w : va_W) (p1 : Int32) (o : Nat) (kR : ClassId) (g0 : Nat → Int64) (hw : ClsI kX kT kM kV kC kN kJ kL kF kO kQ kG kw q L Fc Fs w) (sz : Nat) : Met l yL_best wsH_best ({ frames := 8, cells := 7501, slots := 540000, locals := 152 }) (va_Pc [.ref q, .int p1, .ref o] (fun U => U.heap.size = sz ∧ va_P (dC, dI) vwCl ((o, .inl (kR, 1, .inr (.inl g0))) :: w) U.heap ∧ va_K (dC, dI) vwCl ((kR, .long) :: (tX kX ++ (tT kT ++ (tM kM ++ (tV kV ++ (tC kC ++ (tN kN ++ (tJ kJ ++ (tL kL ++ (tF kF ++ (tO kO ++ (tQ kQ ++ (tG kG ++ (tW kw)))))))))))))) U ∧ va_D (fun _ => True) ((o, .inl (kR, 1, .inr (.inl g0))) :: w) ∧ CE (va_A ((o, .inl (kR, 1, .inr (.inl g0))) :: w) sz) U U.heap ∧ NcE U)) (va_Qi (fun (r : Int32) (u : (LT × Nat × Nat × va_W × (Nat → Int64))) => ClsI kX kT kM kV kC kN kJ kL kF kO kQ kG kw q u.1 u.2.1 u.2.2.1 u.2.2.2.1 ∧ (u.1 = L)) (fun u t => va_P (dC, dI) vwCl ((o, .inl (kR, 1, .inr (.inl u.2.2.2.2))) :: u.2.2.2.1) t.heap ∧ va_D (va_A ((o, .inl (kR, 1, .inr (.inl g0))) :: w) sz) ((o, .inl (kR, 1, .inr (.inl u.2.2.2.2))) :: u.2.2.2.1) ∧ t.heap.size + Fc ≤ sz + u.2.1 + 1000 ∧ nS sz t.heap + Fs ≤ u.2.2.1 + 9000) (va_A ((o, .inl (kR, 1, .inr (.inl g0))) :: w) sz)) 7501 540000 (va_A ((o, .inl (kR, 1, .inr (.inl g0))) :: w) sz) := by
  refine ofWC (hh := [(0, 9, 12, 32), (0, 9, 15, 19)]) (cc := cL_best) (maxL := 4) (ret := (some .int)) (by decide) rfl ?_
  intro p e s m args below meth c s₁ B hml hv
  obtain ⟨rfl, hsz, hP, hK, hD0, hCE, hNc⟩ := hv
  have hx := B.exec
  have hb := B.bytes
  have hr := B.returns
  have hts := atoms_spec (ws := wsH_best) B.pre
  have hown : s.vm.findClass RL = some m.cls := findClass_of_methodNamed B.named
  have hlocks := B.notSynchronized
  have htb : c.exceptionTable.toList = tableOf [(0, 9, 12, 32), (0, 9, 15, 19)] := vx_table (x := yL_best) B (hts _ List.mem_cons_self)
  subst hsz
  have hD := hD0.self (sz := s.heap.size)
  generalize hAe : va_A ((o, .inl (kR, 1, .inr (.inl g0))) :: w) s.heap.size = A at hD hCE ⊢
  have hA : ∀ q : Nat, s.heap.size ≤ q → A q := fun q h => by rw [← hAe]; exact Or.inr h
  have hl := lv_entry ([.ref q, .int p1, .ref o]) (n := 4) (Nat.le_of_ble_eq_true rfl)
  rw [lg_entry_eq]
  generalize (lg_sl ([.ref q, .int p1, .ref o]) ++ List.replicate (4 - (lg_sl ([.ref q, .int p1, .ref o])).length) Slot.unset).toArray = ls at hl ⊢
  have hl : lv_has ls 4 [(0, .ref q), (1, .int p1), (2, .ref o)] := hl
  refine lv_aload_n hx hb dL_best_0 rfl (lv_at hl 2 rfl) ?_
  refine lv_iconst (v := 0) hx hb dL_best_1 (by decide) ?_
  refine lv_aload_n hx hb dL_best_2 rfl (lv_at hl 0 rfl) ?_
  refine lv_iload_n hx hb dL_best_3 rfl (lv_at hl 1 rfl) ?_
  refine lawX_i (As := [.int p1]) (rest := [.int 0, .ref o]) ⟨hx, hb, hml, hown, hts⟩ (U_best l hst dC dI kX kT kM kV kC kN kJ kL kF kO kQ kG kw q L Fc Fs w p1 hw s.heap.size) (cwV 1 hts gIwsH_best rfl rfl rfl (by decide +kernel) ⟨Nat.le_of_ble_eq_true rfl, Nat.le_of_ble_eq_true rfl⟩) hw.recv (hK.mem (fun _ h => List.mem_cons_of_mem _ h)) hCE hA hP hD rfl hl.1 (lv_room (Nat.le_of_ble_eq_true rfl)) dL_best_4 ⟨by decide +kernel, by decide +kernel⟩ (fun E ce q9 u H1 locs1 hp hPE hP hD hS hz hs hc1 hc2 hc3 => ?_) (fun r u H1 locs1 hp hP hD hS hz hs => ?_)
  · refine vx_widen (k := 7501) (n := 540000) (by decide +kernel) (by decide +kernel) ?_
    rcases hPE with hu | hu
    · subst hu
      refine vx_catch (own := RL) (name := "java/lang/IllegalStateException") hown [] ⟨0, 9, 12, 32⟩ [⟨0, 9, 15, 19⟩] (by rw [htb]; rfl) (fun z hz => absurd hz List.not_mem_nil) (by decide) (by decide) (hts (.classLink RL 32 "java/lang/IllegalStateException") (by decide +kernel)) (va_Nw.use rfl (hCE.2.2.1.2.1 (.castable "java/lang/IllegalStateException" "java/lang/IllegalStateException") (by decide +kernel))) hc1 hc2 hc3 ?_
      refine lv_astore_n hx hb dL_best_12 rfl hl (by decide) rfl (fun ls (hl : lv_has ls _ ([(3, .ref q9), (0, .ref q), (1, .int p1), (2, .ref o)])) => ?_)
      refine lv_iconst (v := 1) hx hb dL_best_13 (by decide) ?_
      exact W.iret (v := 1) hx hb hr (fun t ht hW => ⟨⟨1, (u.1, u.2.1, u.2.2.1, u.2.2.2, g0), rfl, hp, by rw [ht]; exact hP, hD, by rw [ht]; exact hz, by rw [ht]; exact hs⟩, hS.F ht⟩) hS.2.2 dL_best_14
    · subst hu
      refine vx_catch (own := RL) (name := "java/lang/IndexOutOfBoundsException") hown [⟨0, 9, 12, 32⟩] ⟨0, 9, 15, 19⟩ [] (by rw [htb]; rfl) (fun z hz => by rw [List.mem_singleton.mp hz]; exact Or.inr ⟨by decide, "java/lang/IllegalStateException", hts (.classLink RL 32 "java/lang/IllegalStateException") (by decide +kernel), hNc.1⟩) (by decide) (by decide) (hts (.classLink RL 19 "java/lang/IndexOutOfBoundsException") (by decide +kernel)) (va_Nw.use rfl (hCE.2.2.1.2.2.2.1 (.castable "java/lang/IndexOutOfBoundsException" "java/lang/IndexOutOfBoundsException") (by decide +kernel))) hc1 hc2 hc3 ?_
      refine lv_astore_n hx hb dL_best_15 rfl hl (by decide) rfl (fun ls (hl : lv_has ls _ ([(3, .ref q9), (0, .ref q), (1, .int p1), (2, .ref o)])) => ?_)
      refine lv_iconst (v := 2) hx hb dL_best_16 (by decide) ?_
      exact W.iret (v := 2) hx hb hr (fun t ht hW => ⟨⟨2, (u.1, u.2.1, u.2.2.1, u.2.2.2, g0), rfl, hp, by rw [ht]; exact hP, hD, by rw [ht]; exact hz, by rw [ht]; exact hs⟩, hS.F ht⟩) hS.2.2 dL_best_17
  · refine W.known (fun z1 z2 => ?_)
    have zS := hS.1
    refine W.tight (cells2 := min 7501 (u.2.1 + 1000 - Fc)) (slots2 := min 540000 (u.2.2.1 + 9000 - Fs)) (by omega) (by omega) ?_
    refine lv_i2l (v := r.toInt64) hx hb dL_best_7 rfl ?_
    refine va_last hx hb hK hP hD hS 0 0 rfl rfl (show ¬ ((0 : Int32) < 0 ∨ 1 ≤ (0 : Int32).toNatClampNeg) by decide) dL_best_8 (fun H2 locs2 hP hD hS => ?_)
    refine lv_goto (tgt := 18) hx hb dL_best_9 (by decide) ?_
    refine lv_iconst (v := 0) hx hb dL_best_18 (by decide) ?_
    refine W.known (fun z3 z4 => ?_)
    refine W.widen (k := 7501) (n := 540000) (Nat.min_le_left _ _) (Nat.min_le_left _ _) ?_
    have z5 : H2.size + Fc ≤ s.heap.size + u.2.1 + 1000 := by omega
    have z6 : nS s.heap.size H2 + Fs ≤ u.2.2.1 + 9000 := by omega
    exact W.iret (v := 0) hx hb hr (fun t ht hW => ⟨⟨0, (u.1, u.2.1, u.2.2.1, u.2.2.2, vp_updL g0 (0 : Int32).toNatClampNeg r.toInt64), rfl, hp, by rw [ht]; exact hP, hD, by rw [ht]; exact z5, by rw [ht]; exact z6⟩, hS.F ht⟩) hS.2.2 dL_best_19
theorem dL_way_0 : decode cL_way 0 = .ok (.aload_n 2, 1) := dk_44 (by decide +kernel)
theorem dL_way_1 : decode cL_way 1 = .ok (.iconst 0, 1) := dk_3 (by decide +kernel)
theorem dL_way_2 : decode cL_way 2 = .ok (.aload_n 0, 1) := dk_42 (by decide +kernel)
theorem dL_way_3 : decode cL_way 3 = .ok (.iload_n 1, 1) := dk_27 (by decide +kernel)
theorem dL_way_4 : decode cL_way 4 = .ok (.invokevirtual 45, 3) := dk_182 (by decide +kernel)
theorem dL_way_7 : decode cL_way 7 = .ok (.i2l, 1) := dk_133 (by decide +kernel)
theorem dL_way_8 : decode cL_way 8 = .ok (.lastore, 1) := dk_80 (by decide +kernel)
theorem dL_way_9 : decode cL_way 9 = .ok (.goto 9, 3) := dk_167 (by decide +kernel)
theorem dL_way_12 : decode cL_way 12 = .ok (.astore_n 3, 1) := dk_78 (by decide +kernel)
theorem dL_way_13 : decode cL_way 13 = .ok (.iconst 1, 1) := dk_4 (by decide +kernel)
theorem dL_way_14 : decode cL_way 14 = .ok (.ireturn, 1) := dk_172 (by decide +kernel)
theorem dL_way_15 : decode cL_way 15 = .ok (.astore_n 3, 1) := dk_78 (by decide +kernel)
theorem dL_way_16 : decode cL_way 16 = .ok (.iconst 2, 1) := dk_5 (by decide +kernel)
theorem dL_way_17 : decode cL_way 17 = .ok (.ireturn, 1) := dk_172 (by decide +kernel)
theorem dL_way_18 : decode cL_way 18 = .ok (.iconst 0, 1) := dk_3 (by decide +kernel)
theorem dL_way_19 : decode cL_way 19 = .ok (.ireturn, 1) := dk_172 (by decide +kernel)
def wsH_way : List Cond := .codeWith yL_way cL_way 4 (some .int) [(0, 9, 12, 32), (0, 9, 15, 19)] :: ([.classLink RL 32 "java/lang/IllegalStateException", .classLink RL 19 "java/lang/IndexOutOfBoundsException"] ++ (wsV RL 45 RX11 yX11_way wsU_way))
theorem gdwsH_way : wsH_way.all goodWord = true := gdC (by decide +kernel) (gdA (by decide +kernel) (gdV (by decide +kernel) gdwsU_way))
theorem gIwsH_way : GoodIn wsH_way (wsV RL 45 RX11 yX11_way wsU_way) := goodIn_sub (fun w h => List.mem_cons_of_mem _ (List.mem_append_right _ h)) (gdV (by decide +kernel) gdwsU_way)
set_option maxHeartbeats 4000000 in
set_option maxRecDepth 100000 in
theorem H_way (l : Launch) (hst : l.stackTraces = false) (dC : Nat → ClassId) (dI : Nat → Nat → Nat) (kX : Nat → ClassId) (kT : Nat → ClassId) (kM : Nat → ClassId) (kV : Nat → ClassId) (kC : Nat → ClassId) (kN : Nat → ClassId) (kJ : Nat → ClassId) (kL : Nat → ClassId) (kF : Nat → ClassId) (kO : Nat → ClassId) (kQ : Nat → ClassId) (kG : Nat → ClassId) (kw : ClassId) (q : Nat) (L : LT) (Fc Fs : Nat) (w : va_W) (p1 : Int32) (o : Nat) (kR : ClassId) (g0 : Nat → Int64) (hw : ClsI kX kT kM kV kC kN kJ kL kF kO kQ kG kw q L Fc Fs w) (sz : Nat) : Met l yL_way wsH_way ({ frames := 8, cells := 1, slots := 6, locals := 131 }) (va_Pc [.ref q, .int p1, .ref o] (fun U => U.heap.size = sz ∧ va_P (dC, dI) vwCl ((o, .inl (kR, 1, .inr (.inl g0))) :: w) U.heap ∧ va_K (dC, dI) vwCl ((kR, .long) :: (tX kX ++ (tT kT ++ (tM kM ++ (tV kV ++ (tC kC ++ (tN kN ++ (tJ kJ ++ (tL kL ++ (tF kF ++ (tO kO ++ (tQ kQ ++ (tG kG ++ (tW kw)))))))))))))) U ∧ va_D (fun _ => True) ((o, .inl (kR, 1, .inr (.inl g0))) :: w) ∧ CE (va_A ((o, .inl (kR, 1, .inr (.inl g0))) :: w) sz) U U.heap ∧ NcE U)) (va_Qi (fun (r : Int32) (u : (LT × Nat × Nat × va_W × (Nat → Int64))) => ClsI kX kT kM kV kC kN kJ kL kF kO kQ kG kw q u.1 u.2.1 u.2.2.1 u.2.2.2.1 ∧ (u.1 = L)) (fun u t => va_P (dC, dI) vwCl ((o, .inl (kR, 1, .inr (.inl u.2.2.2.2))) :: u.2.2.2.1) t.heap ∧ va_D (va_A ((o, .inl (kR, 1, .inr (.inl g0))) :: w) sz) ((o, .inl (kR, 1, .inr (.inl u.2.2.2.2))) :: u.2.2.2.1) ∧ t.heap.size + Fc ≤ sz + u.2.1 + 1000 ∧ nS sz t.heap + Fs ≤ u.2.2.1 + 9000) (va_A ((o, .inl (kR, 1, .inr (.inl g0))) :: w) sz)) 1 6 (va_A ((o, .inl (kR, 1, .inr (.inl g0))) :: w) sz) := by
  refine ofWC (hh := [(0, 9, 12, 32), (0, 9, 15, 19)]) (cc := cL_way) (maxL := 4) (ret := (some .int)) (by decide) rfl ?_
  intro p e s m args below meth c s₁ B hml hv
  obtain ⟨rfl, hsz, hP, hK, hD0, hCE, hNc⟩ := hv
  have hx := B.exec
  have hb := B.bytes
  have hr := B.returns
  have hts := atoms_spec (ws := wsH_way) B.pre
  have hown : s.vm.findClass RL = some m.cls := findClass_of_methodNamed B.named
  have hlocks := B.notSynchronized
  have htb : c.exceptionTable.toList = tableOf [(0, 9, 12, 32), (0, 9, 15, 19)] := vx_table (x := yL_way) B (hts _ List.mem_cons_self)
  subst hsz
  have hD := hD0.self (sz := s.heap.size)
  generalize hAe : va_A ((o, .inl (kR, 1, .inr (.inl g0))) :: w) s.heap.size = A at hD hCE ⊢
  have hA : ∀ q : Nat, s.heap.size ≤ q → A q := fun q h => by rw [← hAe]; exact Or.inr h
  have hl := lv_entry ([.ref q, .int p1, .ref o]) (n := 4) (Nat.le_of_ble_eq_true rfl)
  rw [lg_entry_eq]
  generalize (lg_sl ([.ref q, .int p1, .ref o]) ++ List.replicate (4 - (lg_sl ([.ref q, .int p1, .ref o])).length) Slot.unset).toArray = ls at hl ⊢
  have hl : lv_has ls 4 [(0, .ref q), (1, .int p1), (2, .ref o)] := hl
  refine lv_aload_n hx hb dL_way_0 rfl (lv_at hl 2 rfl) ?_
  refine lv_iconst (v := 0) hx hb dL_way_1 (by decide) ?_
  refine lv_aload_n hx hb dL_way_2 rfl (lv_at hl 0 rfl) ?_
  refine lv_iload_n hx hb dL_way_3 rfl (lv_at hl 1 rfl) ?_
  refine lawX_i (As := [.int p1]) (rest := [.int 0, .ref o]) ⟨hx, hb, hml, hown, hts⟩ (U_way l hst dC dI kX kT kM kV kC kN kJ kL kF kO kQ kG kw q L Fc Fs w p1 hw s.heap.size) (cwV 1 hts gIwsH_way rfl rfl rfl (by decide +kernel) ⟨Nat.le_of_ble_eq_true rfl, Nat.le_of_ble_eq_true rfl⟩) hw.recv (hK.mem (fun _ h => List.mem_cons_of_mem _ h)) hCE hA hP hD rfl hl.1 (lv_room (Nat.le_of_ble_eq_true rfl)) dL_way_4 ⟨by decide +kernel, by decide +kernel⟩ (fun E ce q9 u H1 locs1 hp hPE hP hD hS hz hs hc1 hc2 hc3 => ?_) (fun r u H1 locs1 hp hP hD hS hz hs => ?_)
  · refine vx_widen (k := 1) (n := 6) (by decide +kernel) (by decide +kernel) ?_
    rcases hPE with hu | hu
    · subst hu
      refine vx_catch (own := RL) (name := "java/lang/IllegalStateException") hown [] ⟨0, 9, 12, 32⟩ [⟨0, 9, 15, 19⟩] (by rw [htb]; rfl) (fun z hz => absurd hz List.not_mem_nil) (by decide) (by decide) (hts (.classLink RL 32 "java/lang/IllegalStateException") (by decide +kernel)) (va_Nw.use rfl (hCE.2.2.1.2.1 (.castable "java/lang/IllegalStateException" "java/lang/IllegalStateException") (by decide +kernel))) hc1 hc2 hc3 ?_
      refine lv_astore_n hx hb dL_way_12 rfl hl (by decide) rfl (fun ls (hl : lv_has ls _ ([(3, .ref q9), (0, .ref q), (1, .int p1), (2, .ref o)])) => ?_)
      refine lv_iconst (v := 1) hx hb dL_way_13 (by decide) ?_
      exact W.iret (v := 1) hx hb hr (fun t ht hW => ⟨⟨1, (u.1, u.2.1, u.2.2.1, u.2.2.2, g0), rfl, hp, by rw [ht]; exact hP, hD, by rw [ht]; exact hz, by rw [ht]; exact hs⟩, hS.F ht⟩) hS.2.2 dL_way_14
    · subst hu
      refine vx_catch (own := RL) (name := "java/lang/IndexOutOfBoundsException") hown [⟨0, 9, 12, 32⟩] ⟨0, 9, 15, 19⟩ [] (by rw [htb]; rfl) (fun z hz => by rw [List.mem_singleton.mp hz]; exact Or.inr ⟨by decide, "java/lang/IllegalStateException", hts (.classLink RL 32 "java/lang/IllegalStateException") (by decide +kernel), hNc.1⟩) (by decide) (by decide) (hts (.classLink RL 19 "java/lang/IndexOutOfBoundsException") (by decide +kernel)) (va_Nw.use rfl (hCE.2.2.1.2.2.2.1 (.castable "java/lang/IndexOutOfBoundsException" "java/lang/IndexOutOfBoundsException") (by decide +kernel))) hc1 hc2 hc3 ?_
      refine lv_astore_n hx hb dL_way_15 rfl hl (by decide) rfl (fun ls (hl : lv_has ls _ ([(3, .ref q9), (0, .ref q), (1, .int p1), (2, .ref o)])) => ?_)
      refine lv_iconst (v := 2) hx hb dL_way_16 (by decide) ?_
      exact W.iret (v := 2) hx hb hr (fun t ht hW => ⟨⟨2, (u.1, u.2.1, u.2.2.1, u.2.2.2, g0), rfl, hp, by rw [ht]; exact hP, hD, by rw [ht]; exact hz, by rw [ht]; exact hs⟩, hS.F ht⟩) hS.2.2 dL_way_17
  · refine W.known (fun z1 z2 => ?_)
    have zS := hS.1
    refine W.tight (cells2 := min 1 (u.2.1 + 1000 - Fc)) (slots2 := min 6 (u.2.2.1 + 9000 - Fs)) (by omega) (by omega) ?_
    refine lv_i2l (v := r.toInt64) hx hb dL_way_7 rfl ?_
    refine va_last hx hb hK hP hD hS 0 0 rfl rfl (show ¬ ((0 : Int32) < 0 ∨ 1 ≤ (0 : Int32).toNatClampNeg) by decide) dL_way_8 (fun H2 locs2 hP hD hS => ?_)
    refine lv_goto (tgt := 18) hx hb dL_way_9 (by decide) ?_
    refine lv_iconst (v := 0) hx hb dL_way_18 (by decide) ?_
    refine W.known (fun z3 z4 => ?_)
    refine W.widen (k := 1) (n := 6) (Nat.min_le_left _ _) (Nat.min_le_left _ _) ?_
    have z5 : H2.size + Fc ≤ s.heap.size + u.2.1 + 1000 := by omega
    have z6 : nS s.heap.size H2 + Fs ≤ u.2.2.1 + 9000 := by omega
    exact W.iret (v := 0) hx hb hr (fun t ht hW => ⟨⟨0, (u.1, u.2.1, u.2.2.1, u.2.2.2, vp_updL g0 (0 : Int32).toNatClampNeg r.toInt64), rfl, hp, by rw [ht]; exact hP, hD, by rw [ht]; exact z5, by rw [ht]; exact z6⟩, hS.F ht⟩) hS.2.2 dL_way_19
theorem dL_count_0 : decode cL_count 0 = .ok (.aload_n 1, 1) := dk_43 (by decide +kernel)
theorem dL_count_1 : decode cL_count 1 = .ok (.iconst 0, 1) := dk_3 (by decide +kernel)
theorem dL_count_2 : decode cL_count 2 = .ok (.aload_n 0, 1) := dk_42 (by decide +kernel)
theorem dL_count_3 : decode cL_count 3 = .ok (.invokevirtual 48, 3) := dk_182 (by decide +kernel)
theorem dL_count_6 : decode cL_count 6 = .ok (.i2l, 1) := dk_133 (by decide +kernel)
theorem dL_count_7 : decode cL_count 7 = .ok (.lastore, 1) := dk_80 (by decide +kernel)
theorem dL_count_8 : decode cL_count 8 = .ok (.goto 6, 3) := dk_167 (by decide +kernel)
theorem dL_count_11 : decode cL_count 11 = .ok (.astore_n 2, 1) := dk_77 (by decide +kernel)
theorem dL_count_12 : decode cL_count 12 = .ok (.iconst 1, 1) := dk_4 (by decide +kernel)
theorem dL_count_13 : decode cL_count 13 = .ok (.ireturn, 1) := dk_172 (by decide +kernel)
theorem dL_count_14 : decode cL_count 14 = .ok (.iconst 0, 1) := dk_3 (by decide +kernel)
theorem dL_count_15 : decode cL_count 15 = .ok (.ireturn, 1) := dk_172 (by decide +kernel)
def wsH_count : List Cond := .codeWith yL_count cL_count 3 (some .int) [(0, 8, 11, 32)] :: ([.classLink RL 32 "java/lang/IllegalStateException"] ++ (wsV RL 48 RX11 yX11_count wsU_count))
theorem gdwsH_count : wsH_count.all goodWord = true := gdC (by decide +kernel) (gdA (by decide +kernel) (gdV (by decide +kernel) gdwsU_count))
theorem gIwsH_count : GoodIn wsH_count (wsV RL 48 RX11 yX11_count wsU_count) := goodIn_sub (fun w h => List.mem_cons_of_mem _ (List.mem_append_right _ h)) (gdV (by decide +kernel) gdwsU_count)
set_option maxHeartbeats 4000000 in
set_option maxRecDepth 100000 in
theorem H_count (l : Launch) (hst : l.stackTraces = false) (dC : Nat → ClassId) (dI : Nat → Nat → Nat) (kX : Nat → ClassId) (kT : Nat → ClassId) (kM : Nat → ClassId) (kV : Nat → ClassId) (kC : Nat → ClassId) (kN : Nat → ClassId) (kJ : Nat → ClassId) (kL : Nat → ClassId) (kF : Nat → ClassId) (kO : Nat → ClassId) (kQ : Nat → ClassId) (kG : Nat → ClassId) (kw : ClassId) (q : Nat) (L : LT) (Fc Fs : Nat) (w : va_W) (o : Nat) (kR : ClassId) (g0 : Nat → Int64) (hw : ClsI kX kT kM kV kC kN kJ kL kF kO kQ kG kw q L Fc Fs w) (sz : Nat) : Met l yL_count wsH_count ({ frames := 9, cells := 880, slots := 8040, locals := 223 }) (va_Pc [.ref q, .ref o] (fun U => U.heap.size = sz ∧ va_P (dC, dI) vwCl ((o, .inl (kR, 1, .inr (.inl g0))) :: w) U.heap ∧ va_K (dC, dI) vwCl ((kR, .long) :: (tX kX ++ (tT kT ++ (tM kM ++ (tV kV ++ (tC kC ++ (tN kN ++ (tJ kJ ++ (tL kL ++ (tF kF ++ (tO kO ++ (tQ kQ ++ (tG kG ++ (tW kw)))))))))))))) U ∧ va_D (fun _ => True) ((o, .inl (kR, 1, .inr (.inl g0))) :: w) ∧ CE (va_A ((o, .inl (kR, 1, .inr (.inl g0))) :: w) sz) U U.heap ∧ NcE U)) (va_Qi (fun (r : Int32) (u : (LT × Nat × Nat × va_W × (Nat → Int64))) => ClsI kX kT kM kV kC kN kJ kL kF kO kQ kG kw q u.1 u.2.1 u.2.2.1 u.2.2.2.1 ∧ (u.1 = L)) (fun u t => va_P (dC, dI) vwCl ((o, .inl (kR, 1, .inr (.inl u.2.2.2.2))) :: u.2.2.2.1) t.heap ∧ va_D (va_A ((o, .inl (kR, 1, .inr (.inl g0))) :: w) sz) ((o, .inl (kR, 1, .inr (.inl u.2.2.2.2))) :: u.2.2.2.1) ∧ t.heap.size + Fc ≤ sz + u.2.1 + 1000 ∧ nS sz t.heap + Fs ≤ u.2.2.1 + 9000) (va_A ((o, .inl (kR, 1, .inr (.inl g0))) :: w) sz)) 880 8040 (va_A ((o, .inl (kR, 1, .inr (.inl g0))) :: w) sz) := by
  refine ofWC (hh := [(0, 8, 11, 32)]) (cc := cL_count) (maxL := 3) (ret := (some .int)) (by decide) rfl ?_
  intro p e s m args below meth c s₁ B hml hv
  obtain ⟨rfl, hsz, hP, hK, hD0, hCE, hNc⟩ := hv
  have hx := B.exec
  have hb := B.bytes
  have hr := B.returns
  have hts := atoms_spec (ws := wsH_count) B.pre
  have hown : s.vm.findClass RL = some m.cls := findClass_of_methodNamed B.named
  have hlocks := B.notSynchronized
  have htb : c.exceptionTable.toList = tableOf [(0, 8, 11, 32)] := vx_table (x := yL_count) B (hts _ List.mem_cons_self)
  subst hsz
  have hD := hD0.self (sz := s.heap.size)
  generalize hAe : va_A ((o, .inl (kR, 1, .inr (.inl g0))) :: w) s.heap.size = A at hD hCE ⊢
  have hA : ∀ q : Nat, s.heap.size ≤ q → A q := fun q h => by rw [← hAe]; exact Or.inr h
  have hl := lv_entry ([.ref q, .ref o]) (n := 3) (Nat.le_of_ble_eq_true rfl)
  rw [lg_entry_eq]
  generalize (lg_sl ([.ref q, .ref o]) ++ List.replicate (3 - (lg_sl ([.ref q, .ref o])).length) Slot.unset).toArray = ls at hl ⊢
  have hl : lv_has ls 3 [(0, .ref q), (1, .ref o)] := hl
  refine lv_aload_n hx hb dL_count_0 rfl (lv_at hl 1 rfl) ?_
  refine lv_iconst (v := 0) hx hb dL_count_1 (by decide) ?_
  refine lv_aload_n hx hb dL_count_2 rfl (lv_at hl 0 rfl) ?_
  refine lawX_i (As := []) (rest := [.int 0, .ref o]) ⟨hx, hb, hml, hown, hts⟩ (U_count l hst dC dI kX kT kM kV kC kN kJ kL kF kO kQ kG kw q L Fc Fs w hw s.heap.size) (cwV 0 hts gIwsH_count rfl rfl rfl (by decide +kernel) ⟨Nat.le_of_ble_eq_true rfl, Nat.le_of_ble_eq_true rfl⟩) hw.recv (hK.mem (fun _ h => List.mem_cons_of_mem _ h)) hCE hA hP hD rfl hl.1 (lv_room (Nat.le_of_ble_eq_true rfl)) dL_count_3 ⟨by decide +kernel, by decide +kernel⟩ (fun E ce q9 u H1 locs1 hp hPE hP hD hS hz hs hc1 hc2 hc3 => ?_) (fun r u H1 locs1 hp hP hD hS hz hs => ?_)
  · refine vx_widen (k := 880) (n := 8040) (by decide +kernel) (by decide +kernel) ?_
    have hu := hPE
    subst hu
    refine vx_catch (own := RL) (name := "java/lang/IllegalStateException") hown [] ⟨0, 8, 11, 32⟩ [] (by rw [htb]; rfl) (fun z hz => absurd hz List.not_mem_nil) (by decide) (by decide) (hts (.classLink RL 32 "java/lang/IllegalStateException") (by decide +kernel)) (va_Nw.use rfl (hCE.2.2.1.2.1 (.castable "java/lang/IllegalStateException" "java/lang/IllegalStateException") (by decide +kernel))) hc1 hc2 hc3 ?_
    refine lv_astore_n hx hb dL_count_11 rfl hl (by decide) rfl (fun ls (hl : lv_has ls _ ([(2, .ref q9), (0, .ref q), (1, .ref o)])) => ?_)
    refine lv_iconst (v := 1) hx hb dL_count_12 (by decide) ?_
    exact W.iret (v := 1) hx hb hr (fun t ht hW => ⟨⟨1, (u.1, u.2.1, u.2.2.1, u.2.2.2, g0), rfl, hp, by rw [ht]; exact hP, hD, by rw [ht]; exact hz, by rw [ht]; exact hs⟩, hS.F ht⟩) hS.2.2 dL_count_13
  · refine W.known (fun z1 z2 => ?_)
    have zS := hS.1
    refine W.tight (cells2 := min 880 (u.2.1 + 1000 - Fc)) (slots2 := min 8040 (u.2.2.1 + 9000 - Fs)) (by omega) (by omega) ?_
    refine lv_i2l (v := r.toInt64) hx hb dL_count_6 rfl ?_
    refine va_last hx hb hK hP hD hS 0 0 rfl rfl (show ¬ ((0 : Int32) < 0 ∨ 1 ≤ (0 : Int32).toNatClampNeg) by decide) dL_count_7 (fun H2 locs2 hP hD hS => ?_)
    refine lv_goto (tgt := 14) hx hb dL_count_8 (by decide) ?_
    refine lv_iconst (v := 0) hx hb dL_count_14 (by decide) ?_
    refine W.known (fun z3 z4 => ?_)
    refine W.widen (k := 880) (n := 8040) (Nat.min_le_left _ _) (Nat.min_le_left _ _) ?_
    have z5 : H2.size + Fc ≤ s.heap.size + u.2.1 + 1000 := by omega
    have z6 : nS s.heap.size H2 + Fs ≤ u.2.2.1 + 9000 := by omega
    exact W.iret (v := 0) hx hb hr (fun t ht hW => ⟨⟨0, (u.1, u.2.1, u.2.2.1, u.2.2.2, vp_updL g0 (0 : Int32).toNatClampNeg r.toInt64), rfl, hp, by rw [ht]; exact hP, hD, by rw [ht]; exact z5, by rw [ht]; exact z6⟩, hS.F ht⟩) hS.2.2 dL_count_15
theorem dL_counted_0 : decode cL_counted 0 = .ok (.aload_n 3, 1) := dk_45 (by decide +kernel)
theorem dL_counted_1 : decode cL_counted 1 = .ok (.iconst 0, 1) := dk_3 (by decide +kernel)
theorem dL_counted_2 : decode cL_counted 2 = .ok (.aload_n 0, 1) := dk_42 (by decide +kernel)
theorem dL_counted_3 : decode cL_counted 3 = .ok (.iload_n 1, 1) := dk_27 (by decide +kernel)
theorem dL_counted_4 : decode cL_counted 4 = .ok (.iload_n 2, 1) := dk_28 (by decide +kernel)
theorem dL_counted_5 : decode cL_counted 5 = .ok (.invokevirtual 51, 3) := dk_182 (by decide +kernel)
theorem dL_counted_8 : decode cL_counted 8 = .ok (.i2l, 1) := dk_133 (by decide +kernel)
theorem dL_counted_9 : decode cL_counted 9 = .ok (.lastore, 1) := dk_80 (by decide +kernel)
theorem dL_counted_10 : decode cL_counted 10 = .ok (.goto 7, 3) := dk_167 (by decide +kernel)
theorem dL_counted_13 : decode cL_counted 13 = .ok (.astore 4, 2) := dk_58 (by decide +kernel)
theorem dL_counted_15 : decode cL_counted 15 = .ok (.iconst 1, 1) := dk_4 (by decide +kernel)
theorem dL_counted_16 : decode cL_counted 16 = .ok (.ireturn, 1) := dk_172 (by decide +kernel)
theorem dL_counted_17 : decode cL_counted 17 = .ok (.iconst 0, 1) := dk_3 (by decide +kernel)
theorem dL_counted_18 : decode cL_counted 18 = .ok (.ireturn, 1) := dk_172 (by decide +kernel)
def wsH_counted : List Cond := .codeWith yL_counted cL_counted 5 (some .int) [(0, 10, 13, 32)] :: ([.classLink RL 32 "java/lang/IllegalStateException"] ++ (wsV RL 51 RX11 yX11_counted wsU_counted))
theorem gdwsH_counted : wsH_counted.all goodWord = true := gdC (by decide +kernel) (gdA (by decide +kernel) (gdV (by decide +kernel) gdwsU_counted))
theorem gIwsH_counted : GoodIn wsH_counted (wsV RL 51 RX11 yX11_counted wsU_counted) := goodIn_sub (fun w h => List.mem_cons_of_mem _ (List.mem_append_right _ h)) (gdV (by decide +kernel) gdwsU_counted)
set_option maxHeartbeats 4000000 in
set_option maxRecDepth 100000 in
theorem H_counted (l : Launch) (hst : l.stackTraces = false) (dC : Nat → ClassId) (dI : Nat → Nat → Nat) (kX : Nat → ClassId) (kT : Nat → ClassId) (kM : Nat → ClassId) (kV : Nat → ClassId) (kC : Nat → ClassId) (kN : Nat → ClassId) (kJ : Nat → ClassId) (kL : Nat → ClassId) (kF : Nat → ClassId) (kO : Nat → ClassId) (kQ : Nat → ClassId) (kG : Nat → ClassId) (kw : ClassId) (q : Nat) (L : LT) (Fc Fs : Nat) (w : va_W) (p1 : Int32) (p2 : Int32) (o : Nat) (kR : ClassId) (g0 : Nat → Int64) (hw : ClsI kX kT kM kV kC kN kJ kL kF kO kQ kG kw q L Fc Fs w) (sz : Nat) : Met l yL_counted wsH_counted ({ frames := 9, cells := 880, slots := 8040, locals := 225 }) (va_Pc [.ref q, .int p1, .int p2, .ref o] (fun U => U.heap.size = sz ∧ va_P (dC, dI) vwCl ((o, .inl (kR, 1, .inr (.inl g0))) :: w) U.heap ∧ va_K (dC, dI) vwCl ((kR, .long) :: (tX kX ++ (tT kT ++ (tM kM ++ (tV kV ++ (tC kC ++ (tN kN ++ (tJ kJ ++ (tL kL ++ (tF kF ++ (tO kO ++ (tQ kQ ++ (tG kG ++ (tW kw)))))))))))))) U ∧ va_D (fun _ => True) ((o, .inl (kR, 1, .inr (.inl g0))) :: w) ∧ CE (va_A ((o, .inl (kR, 1, .inr (.inl g0))) :: w) sz) U U.heap ∧ NcE U)) (va_Qi (fun (r : Int32) (u : (LT × Nat × Nat × va_W × (Nat → Int64))) => ClsI kX kT kM kV kC kN kJ kL kF kO kQ kG kw q u.1 u.2.1 u.2.2.1 u.2.2.2.1 ∧ (u.1 = L)) (fun u t => va_P (dC, dI) vwCl ((o, .inl (kR, 1, .inr (.inl u.2.2.2.2))) :: u.2.2.2.1) t.heap ∧ va_D (va_A ((o, .inl (kR, 1, .inr (.inl g0))) :: w) sz) ((o, .inl (kR, 1, .inr (.inl u.2.2.2.2))) :: u.2.2.2.1) ∧ t.heap.size + Fc ≤ sz + u.2.1 + 1000 ∧ nS sz t.heap + Fs ≤ u.2.2.1 + 9000) (va_A ((o, .inl (kR, 1, .inr (.inl g0))) :: w) sz)) 880 8040 (va_A ((o, .inl (kR, 1, .inr (.inl g0))) :: w) sz) := by
  refine ofWC (hh := [(0, 10, 13, 32)]) (cc := cL_counted) (maxL := 5) (ret := (some .int)) (by decide) rfl ?_
  intro p e s m args below meth c s₁ B hml hv
  obtain ⟨rfl, hsz, hP, hK, hD0, hCE, hNc⟩ := hv
  have hx := B.exec
  have hb := B.bytes
  have hr := B.returns
  have hts := atoms_spec (ws := wsH_counted) B.pre
  have hown : s.vm.findClass RL = some m.cls := findClass_of_methodNamed B.named
  have hlocks := B.notSynchronized
  have htb : c.exceptionTable.toList = tableOf [(0, 10, 13, 32)] := vx_table (x := yL_counted) B (hts _ List.mem_cons_self)
  subst hsz
  have hD := hD0.self (sz := s.heap.size)
  generalize hAe : va_A ((o, .inl (kR, 1, .inr (.inl g0))) :: w) s.heap.size = A at hD hCE ⊢
  have hA : ∀ q : Nat, s.heap.size ≤ q → A q := fun q h => by rw [← hAe]; exact Or.inr h
  have hl := lv_entry ([.ref q, .int p1, .int p2, .ref o]) (n := 5) (Nat.le_of_ble_eq_true rfl)
  rw [lg_entry_eq]
  generalize (lg_sl ([.ref q, .int p1, .int p2, .ref o]) ++ List.replicate (5 - (lg_sl ([.ref q, .int p1, .int p2, .ref o])).length) Slot.unset).toArray = ls at hl ⊢
  have hl : lv_has ls 5 [(0, .ref q), (1, .int p1), (2, .int p2), (3, .ref o)] := hl
  refine lv_aload_n hx hb dL_counted_0 rfl (lv_at hl 3 rfl) ?_
  refine lv_iconst (v := 0) hx hb dL_counted_1 (by decide) ?_
  refine lv_aload_n hx hb dL_counted_2 rfl (lv_at hl 0 rfl) ?_
  refine lv_iload_n hx hb dL_counted_3 rfl (lv_at hl 1 rfl) ?_
  refine lv_iload_n hx hb dL_counted_4 rfl (lv_at hl 2 rfl) ?_
  refine lawX_i (As := [.int p1, .int p2]) (rest := [.int 0, .ref o]) ⟨hx, hb, hml, hown, hts⟩ (U_counted l hst dC dI kX kT kM kV kC kN kJ kL kF kO kQ kG kw q L Fc Fs w p1 p2 hw s.heap.size) (cwV 2 hts gIwsH_counted rfl rfl rfl (by decide +kernel) ⟨Nat.le_of_ble_eq_true rfl, Nat.le_of_ble_eq_true rfl⟩) hw.recv (hK.mem (fun _ h => List.mem_cons_of_mem _ h)) hCE hA hP hD rfl hl.1 (lv_room (Nat.le_of_ble_eq_true rfl)) dL_counted_5 ⟨by decide +kernel, by decide +kernel⟩ (fun E ce q9 u H1 locs1 hp hPE hP hD hS hz hs hc1 hc2 hc3 => ?_) (fun r u H1 locs1 hp hP hD hS hz hs => ?_)
  · refine vx_widen (k := 880) (n := 8040) (by decide +kernel) (by decide +kernel) ?_
    have hu := hPE
    subst hu
    refine vx_catch (own := RL) (name := "java/lang/IllegalStateException") hown [] ⟨0, 10, 13, 32⟩ [] (by rw [htb]; rfl) (fun z hz => absurd hz List.not_mem_nil) (by decide) (by decide) (hts (.classLink RL 32 "java/lang/IllegalStateException") (by decide +kernel)) (va_Nw.use rfl (hCE.2.2.1.2.1 (.castable "java/lang/IllegalStateException" "java/lang/IllegalStateException") (by decide +kernel))) hc1 hc2 hc3 ?_
    refine lv_astore hx hb dL_counted_13 hl (by decide) rfl (fun ls (hl : lv_has ls _ ([(4, .ref q9), (0, .ref q), (1, .int p1), (2, .int p2), (3, .ref o)])) => ?_)
    refine lv_iconst (v := 1) hx hb dL_counted_15 (by decide) ?_
    exact W.iret (v := 1) hx hb hr (fun t ht hW => ⟨⟨1, (u.1, u.2.1, u.2.2.1, u.2.2.2, g0), rfl, hp, by rw [ht]; exact hP, hD, by rw [ht]; exact hz, by rw [ht]; exact hs⟩, hS.F ht⟩) hS.2.2 dL_counted_16
  · refine W.known (fun z1 z2 => ?_)
    have zS := hS.1
    refine W.tight (cells2 := min 880 (u.2.1 + 1000 - Fc)) (slots2 := min 8040 (u.2.2.1 + 9000 - Fs)) (by omega) (by omega) ?_
    refine lv_i2l (v := r.toInt64) hx hb dL_counted_8 rfl ?_
    refine va_last hx hb hK hP hD hS 0 0 rfl rfl (show ¬ ((0 : Int32) < 0 ∨ 1 ≤ (0 : Int32).toNatClampNeg) by decide) dL_counted_9 (fun H2 locs2 hP hD hS => ?_)
    refine lv_goto (tgt := 17) hx hb dL_counted_10 (by decide) ?_
    refine lv_iconst (v := 0) hx hb dL_counted_17 (by decide) ?_
    refine W.known (fun z3 z4 => ?_)
    refine W.widen (k := 880) (n := 8040) (Nat.min_le_left _ _) (Nat.min_le_left _ _) ?_
    have z5 : H2.size + Fc ≤ s.heap.size + u.2.1 + 1000 := by omega
    have z6 : nS s.heap.size H2 + Fs ≤ u.2.2.1 + 9000 := by omega
    exact W.iret (v := 0) hx hb hr (fun t ht hW => ⟨⟨0, (u.1, u.2.1, u.2.2.1, u.2.2.2, vp_updL g0 (0 : Int32).toNatClampNeg r.toInt64), rfl, hp, by rw [ht]; exact hP, hD, by rw [ht]; exact z5, by rw [ht]; exact z6⟩, hS.F ht⟩) hS.2.2 dL_counted_18
theorem dL_prove_0 : decode cL_prove 0 = .ok (.aload_n 1, 1) := dk_43 (by decide +kernel)
theorem dL_prove_1 : decode cL_prove 1 = .ok (.iconst 0, 1) := dk_3 (by decide +kernel)
theorem dL_prove_2 : decode cL_prove 2 = .ok (.aload_n 0, 1) := dk_42 (by decide +kernel)
theorem dL_prove_3 : decode cL_prove 3 = .ok (.invokevirtual 54, 3) := dk_182 (by decide +kernel)
theorem dL_prove_6 : decode cL_prove 6 = .ok (.i2l, 1) := dk_133 (by decide +kernel)
theorem dL_prove_7 : decode cL_prove 7 = .ok (.lastore, 1) := dk_80 (by decide +kernel)
theorem dL_prove_8 : decode cL_prove 8 = .ok (.goto 6, 3) := dk_167 (by decide +kernel)
theorem dL_prove_11 : decode cL_prove 11 = .ok (.astore_n 2, 1) := dk_77 (by decide +kernel)
theorem dL_prove_12 : decode cL_prove 12 = .ok (.iconst 1, 1) := dk_4 (by decide +kernel)
theorem dL_prove_13 : decode cL_prove 13 = .ok (.ireturn, 1) := dk_172 (by decide +kernel)
theorem dL_prove_14 : decode cL_prove 14 = .ok (.iconst 0, 1) := dk_3 (by decide +kernel)
theorem dL_prove_15 : decode cL_prove 15 = .ok (.ireturn, 1) := dk_172 (by decide +kernel)
def wsH_prove : List Cond := .codeWith yL_prove cL_prove 3 (some .int) [(0, 8, 11, 32)] :: ([.classLink RL 32 "java/lang/IllegalStateException"] ++ (wsV RL 54 RX11 yX11_prove wsU_prove))
theorem gdwsH_prove : wsH_prove.all goodWord = true := gdC (by decide +kernel) (gdA (by decide +kernel) (gdV (by decide +kernel) gdwsU_prove))
theorem gIwsH_prove : GoodIn wsH_prove (wsV RL 54 RX11 yX11_prove wsU_prove) := goodIn_sub (fun w h => List.mem_cons_of_mem _ (List.mem_append_right _ h)) (gdV (by decide +kernel) gdwsU_prove)
set_option maxHeartbeats 4000000 in
set_option maxRecDepth 100000 in
theorem H_prove (l : Launch) (hst : l.stackTraces = false) (dC : Nat → ClassId) (dI : Nat → Nat → Nat) (kX : Nat → ClassId) (kT : Nat → ClassId) (kM : Nat → ClassId) (kV : Nat → ClassId) (kC : Nat → ClassId) (kN : Nat → ClassId) (kJ : Nat → ClassId) (kL : Nat → ClassId) (kF : Nat → ClassId) (kO : Nat → ClassId) (kQ : Nat → ClassId) (kG : Nat → ClassId) (kw : ClassId) (q : Nat) (L : LT) (Fc Fs : Nat) (w : va_W) (o : Nat) (kR : ClassId) (g0 : Nat → Int64) (hw : ClsI kX kT kM kV kC kN kJ kL kF kO kQ kG kw q L Fc Fs w) (sz : Nat) : Met l yL_prove wsH_prove ({ frames := 9, cells := 970, slots := 8915, locals := 221 }) (va_Pc [.ref q, .ref o] (fun U => U.heap.size = sz ∧ va_P (dC, dI) vwCl ((o, .inl (kR, 1, .inr (.inl g0))) :: w) U.heap ∧ va_K (dC, dI) vwCl ((kR, .long) :: (tX kX ++ (tT kT ++ (tM kM ++ (tV kV ++ (tC kC ++ (tN kN ++ (tJ kJ ++ (tL kL ++ (tF kF ++ (tO kO ++ (tQ kQ ++ (tG kG ++ (tW kw)))))))))))))) U ∧ va_D (fun _ => True) ((o, .inl (kR, 1, .inr (.inl g0))) :: w) ∧ CE (va_A ((o, .inl (kR, 1, .inr (.inl g0))) :: w) sz) U U.heap ∧ NcE U)) (va_Qi (fun (r : Int32) (u : (LT × Nat × Nat × va_W × (Nat → Int64))) => ClsI kX kT kM kV kC kN kJ kL kF kO kQ kG kw q u.1 u.2.1 u.2.2.1 u.2.2.2.1 ∧ (u.1 = L)) (fun u t => va_P (dC, dI) vwCl ((o, .inl (kR, 1, .inr (.inl u.2.2.2.2))) :: u.2.2.2.1) t.heap ∧ va_D (va_A ((o, .inl (kR, 1, .inr (.inl g0))) :: w) sz) ((o, .inl (kR, 1, .inr (.inl u.2.2.2.2))) :: u.2.2.2.1) ∧ t.heap.size + Fc ≤ sz + u.2.1 + 1000 ∧ nS sz t.heap + Fs ≤ u.2.2.1 + 9000) (va_A ((o, .inl (kR, 1, .inr (.inl g0))) :: w) sz)) 970 8915 (va_A ((o, .inl (kR, 1, .inr (.inl g0))) :: w) sz) := by
  refine ofWC (hh := [(0, 8, 11, 32)]) (cc := cL_prove) (maxL := 3) (ret := (some .int)) (by decide) rfl ?_
  intro p e s m args below meth c s₁ B hml hv
  obtain ⟨rfl, hsz, hP, hK, hD0, hCE, hNc⟩ := hv
  have hx := B.exec
  have hb := B.bytes
  have hr := B.returns
  have hts := atoms_spec (ws := wsH_prove) B.pre
  have hown : s.vm.findClass RL = some m.cls := findClass_of_methodNamed B.named
  have hlocks := B.notSynchronized
  have htb : c.exceptionTable.toList = tableOf [(0, 8, 11, 32)] := vx_table (x := yL_prove) B (hts _ List.mem_cons_self)
  subst hsz
  have hD := hD0.self (sz := s.heap.size)
  generalize hAe : va_A ((o, .inl (kR, 1, .inr (.inl g0))) :: w) s.heap.size = A at hD hCE ⊢
  have hA : ∀ q : Nat, s.heap.size ≤ q → A q := fun q h => by rw [← hAe]; exact Or.inr h
  have hl := lv_entry ([.ref q, .ref o]) (n := 3) (Nat.le_of_ble_eq_true rfl)
  rw [lg_entry_eq]
  generalize (lg_sl ([.ref q, .ref o]) ++ List.replicate (3 - (lg_sl ([.ref q, .ref o])).length) Slot.unset).toArray = ls at hl ⊢
  have hl : lv_has ls 3 [(0, .ref q), (1, .ref o)] := hl
  refine lv_aload_n hx hb dL_prove_0 rfl (lv_at hl 1 rfl) ?_
  refine lv_iconst (v := 0) hx hb dL_prove_1 (by decide) ?_
  refine lv_aload_n hx hb dL_prove_2 rfl (lv_at hl 0 rfl) ?_
  refine lawX_i (As := []) (rest := [.int 0, .ref o]) ⟨hx, hb, hml, hown, hts⟩ (U_prove l hst dC dI kX kT kM kV kC kN kJ kL kF kO kQ kG kw q L Fc Fs w hw s.heap.size) (cwV 0 hts gIwsH_prove rfl rfl rfl (by decide +kernel) ⟨Nat.le_of_ble_eq_true rfl, Nat.le_of_ble_eq_true rfl⟩) hw.recv (hK.mem (fun _ h => List.mem_cons_of_mem _ h)) hCE hA hP hD rfl hl.1 (lv_room (Nat.le_of_ble_eq_true rfl)) dL_prove_3 ⟨by decide +kernel, by decide +kernel⟩ (fun E ce q9 u H1 locs1 hp hPE hP hD hS hz hs hc1 hc2 hc3 => ?_) (fun r u H1 locs1 hp hP hD hS hz hs => ?_)
  · refine vx_widen (k := 970) (n := 8915) (by decide +kernel) (by decide +kernel) ?_
    have hu := hPE
    subst hu
    refine vx_catch (own := RL) (name := "java/lang/IllegalStateException") hown [] ⟨0, 8, 11, 32⟩ [] (by rw [htb]; rfl) (fun z hz => absurd hz List.not_mem_nil) (by decide) (by decide) (hts (.classLink RL 32 "java/lang/IllegalStateException") (by decide +kernel)) (va_Nw.use rfl (hCE.2.2.1.2.1 (.castable "java/lang/IllegalStateException" "java/lang/IllegalStateException") (by decide +kernel))) hc1 hc2 hc3 ?_
    refine lv_astore_n hx hb dL_prove_11 rfl hl (by decide) rfl (fun ls (hl : lv_has ls _ ([(2, .ref q9), (0, .ref q), (1, .ref o)])) => ?_)
    refine lv_iconst (v := 1) hx hb dL_prove_12 (by decide) ?_
    exact W.iret (v := 1) hx hb hr (fun t ht hW => ⟨⟨1, (u.1, u.2.1, u.2.2.1, u.2.2.2, g0), rfl, hp, by rw [ht]; exact hP, hD, by rw [ht]; exact hz, by rw [ht]; exact hs⟩, hS.F ht⟩) hS.2.2 dL_prove_13
  · refine W.known (fun z1 z2 => ?_)
    have zS := hS.1
    refine W.tight (cells2 := min 970 (u.2.1 + 1000 - Fc)) (slots2 := min 8915 (u.2.2.1 + 9000 - Fs)) (by omega) (by omega) ?_
    refine lv_i2l (v := r.toInt64) hx hb dL_prove_6 rfl ?_
    refine va_last hx hb hK hP hD hS 0 0 rfl rfl (show ¬ ((0 : Int32) < 0 ∨ 1 ≤ (0 : Int32).toNatClampNeg) by decide) dL_prove_7 (fun H2 locs2 hP hD hS => ?_)
    refine lv_goto (tgt := 14) hx hb dL_prove_8 (by decide) ?_
    refine lv_iconst (v := 0) hx hb dL_prove_14 (by decide) ?_
    refine W.known (fun z3 z4 => ?_)
    refine W.widen (k := 970) (n := 8915) (Nat.min_le_left _ _) (Nat.min_le_left _ _) ?_
    have z5 : H2.size + Fc ≤ s.heap.size + u.2.1 + 1000 := by omega
    have z6 : nS s.heap.size H2 + Fs ≤ u.2.2.1 + 9000 := by omega
    exact W.iret (v := 0) hx hb hr (fun t ht hW => ⟨⟨0, (u.1, u.2.1, u.2.2.1, u.2.2.2, vp_updL g0 (0 : Int32).toNatClampNeg r.toInt64), rfl, hp, by rw [ht]; exact hP, hD, by rw [ht]; exact z5, by rw [ht]; exact z6⟩, hS.F ht⟩) hS.2.2 dL_prove_15
theorem dL_multiplier_0 : decode cL_multiplier 0 = .ok (.aload_n 2, 1) := dk_44 (by decide +kernel)
theorem dL_multiplier_1 : decode cL_multiplier 1 = .ok (.iconst 0, 1) := dk_3 (by decide +kernel)
theorem dL_multiplier_2 : decode cL_multiplier 2 = .ok (.aload_n 0, 1) := dk_42 (by decide +kernel)
theorem dL_multiplier_3 : decode cL_multiplier 3 = .ok (.iload_n 1, 1) := dk_27 (by decide +kernel)
theorem dL_multiplier_4 : decode cL_multiplier 4 = .ok (.invokevirtual 57, 3) := dk_182 (by decide +kernel)
theorem dL_multiplier_7 : decode cL_multiplier 7 = .ok (.i2l, 1) := dk_133 (by decide +kernel)
theorem dL_multiplier_8 : decode cL_multiplier 8 = .ok (.lastore, 1) := dk_80 (by decide +kernel)
theorem dL_multiplier_9 : decode cL_multiplier 9 = .ok (.goto 9, 3) := dk_167 (by decide +kernel)
theorem dL_multiplier_12 : decode cL_multiplier 12 = .ok (.astore_n 3, 1) := dk_78 (by decide +kernel)
theorem dL_multiplier_13 : decode cL_multiplier 13 = .ok (.iconst 1, 1) := dk_4 (by decide +kernel)
theorem dL_multiplier_14 : decode cL_multiplier 14 = .ok (.ireturn, 1) := dk_172 (by decide +kernel)
theorem dL_multiplier_15 : decode cL_multiplier 15 = .ok (.astore_n 3, 1) := dk_78 (by decide +kernel)
theorem dL_multiplier_16 : decode cL_multiplier 16 = .ok (.iconst 2, 1) := dk_5 (by decide +kernel)
theorem dL_multiplier_17 : decode cL_multiplier 17 = .ok (.ireturn, 1) := dk_172 (by decide +kernel)
theorem dL_multiplier_18 : decode cL_multiplier 18 = .ok (.iconst 0, 1) := dk_3 (by decide +kernel)
theorem dL_multiplier_19 : decode cL_multiplier 19 = .ok (.ireturn, 1) := dk_172 (by decide +kernel)
def wsH_multiplier : List Cond := .codeWith yL_multiplier cL_multiplier 4 (some .int) [(0, 9, 12, 32), (0, 9, 15, 19)] :: ([.classLink RL 32 "java/lang/IllegalStateException", .classLink RL 19 "java/lang/IndexOutOfBoundsException"] ++ (wsV RL 57 RX11 yX11_multiplier wsU_multiplier))
theorem gdwsH_multiplier : wsH_multiplier.all goodWord = true := gdC (by decide +kernel) (gdA (by decide +kernel) (gdV (by decide +kernel) gdwsU_multiplier))
theorem gIwsH_multiplier : GoodIn wsH_multiplier (wsV RL 57 RX11 yX11_multiplier wsU_multiplier) := goodIn_sub (fun w h => List.mem_cons_of_mem _ (List.mem_append_right _ h)) (gdV (by decide +kernel) gdwsU_multiplier)
set_option maxHeartbeats 4000000 in
set_option maxRecDepth 100000 in
theorem H_multiplier (l : Launch) (hst : l.stackTraces = false) (dC : Nat → ClassId) (dI : Nat → Nat → Nat) (kX : Nat → ClassId) (kT : Nat → ClassId) (kM : Nat → ClassId) (kV : Nat → ClassId) (kC : Nat → ClassId) (kN : Nat → ClassId) (kJ : Nat → ClassId) (kL : Nat → ClassId) (kF : Nat → ClassId) (kO : Nat → ClassId) (kQ : Nat → ClassId) (kG : Nat → ClassId) (kw : ClassId) (q : Nat) (L : LT) (Fc Fs : Nat) (w : va_W) (p1 : Int32) (o : Nat) (kR : ClassId) (g0 : Nat → Int64) (hw : ClsI kX kT kM kV kC kN kJ kL kF kO kQ kG kw q L Fc Fs w) (sz : Nat) : Met l yL_multiplier wsH_multiplier ({ frames := 7, cells := 7501, slots := 540000, locals := 134 }) (va_Pc [.ref q, .int p1, .ref o] (fun U => U.heap.size = sz ∧ va_P (dC, dI) vwCl ((o, .inl (kR, 1, .inr (.inl g0))) :: w) U.heap ∧ va_K (dC, dI) vwCl ((kR, .long) :: (tX kX ++ (tT kT ++ (tM kM ++ (tV kV ++ (tC kC ++ (tN kN ++ (tJ kJ ++ (tL kL ++ (tF kF ++ (tO kO ++ (tQ kQ ++ (tG kG ++ (tW kw)))))))))))))) U ∧ va_D (fun _ => True) ((o, .inl (kR, 1, .inr (.inl g0))) :: w) ∧ CE (va_A ((o, .inl (kR, 1, .inr (.inl g0))) :: w) sz) U U.heap ∧ NcE U)) (va_Qi (fun (r : Int32) (u : (LT × Nat × Nat × va_W × (Nat → Int64))) => ClsI kX kT kM kV kC kN kJ kL kF kO kQ kG kw q u.1 u.2.1 u.2.2.1 u.2.2.2.1 ∧ (u.1 = L)) (fun u t => va_P (dC, dI) vwCl ((o, .inl (kR, 1, .inr (.inl u.2.2.2.2))) :: u.2.2.2.1) t.heap ∧ va_D (va_A ((o, .inl (kR, 1, .inr (.inl g0))) :: w) sz) ((o, .inl (kR, 1, .inr (.inl u.2.2.2.2))) :: u.2.2.2.1) ∧ t.heap.size + Fc ≤ sz + u.2.1 + 1000 ∧ nS sz t.heap + Fs ≤ u.2.2.1 + 9000) (va_A ((o, .inl (kR, 1, .inr (.inl g0))) :: w) sz)) 7501 540000 (va_A ((o, .inl (kR, 1, .inr (.inl g0))) :: w) sz) := by
  refine ofWC (hh := [(0, 9, 12, 32), (0, 9, 15, 19)]) (cc := cL_multiplier) (maxL := 4) (ret := (some .int)) (by decide) rfl ?_
  intro p e s m args below meth c s₁ B hml hv
  obtain ⟨rfl, hsz, hP, hK, hD0, hCE, hNc⟩ := hv
  have hx := B.exec
  have hb := B.bytes
  have hr := B.returns
  have hts := atoms_spec (ws := wsH_multiplier) B.pre
  have hown : s.vm.findClass RL = some m.cls := findClass_of_methodNamed B.named
  have hlocks := B.notSynchronized
  have htb : c.exceptionTable.toList = tableOf [(0, 9, 12, 32), (0, 9, 15, 19)] := vx_table (x := yL_multiplier) B (hts _ List.mem_cons_self)
  subst hsz
  have hD := hD0.self (sz := s.heap.size)
  generalize hAe : va_A ((o, .inl (kR, 1, .inr (.inl g0))) :: w) s.heap.size = A at hD hCE ⊢
  have hA : ∀ q : Nat, s.heap.size ≤ q → A q := fun q h => by rw [← hAe]; exact Or.inr h
  have hl := lv_entry ([.ref q, .int p1, .ref o]) (n := 4) (Nat.le_of_ble_eq_true rfl)
  rw [lg_entry_eq]
  generalize (lg_sl ([.ref q, .int p1, .ref o]) ++ List.replicate (4 - (lg_sl ([.ref q, .int p1, .ref o])).length) Slot.unset).toArray = ls at hl ⊢
  have hl : lv_has ls 4 [(0, .ref q), (1, .int p1), (2, .ref o)] := hl
  refine lv_aload_n hx hb dL_multiplier_0 rfl (lv_at hl 2 rfl) ?_
  refine lv_iconst (v := 0) hx hb dL_multiplier_1 (by decide) ?_
  refine lv_aload_n hx hb dL_multiplier_2 rfl (lv_at hl 0 rfl) ?_
  refine lv_iload_n hx hb dL_multiplier_3 rfl (lv_at hl 1 rfl) ?_
  refine lawX_i (As := [.int p1]) (rest := [.int 0, .ref o]) ⟨hx, hb, hml, hown, hts⟩ (U_multiplier l hst dC dI kX kT kM kV kC kN kJ kL kF kO kQ kG kw q L Fc Fs w p1 hw s.heap.size) (cwV 1 hts gIwsH_multiplier rfl rfl rfl (by decide +kernel) ⟨Nat.le_of_ble_eq_true rfl, Nat.le_of_ble_eq_true rfl⟩) hw.recv (hK.mem (fun _ h => List.mem_cons_of_mem _ h)) hCE hA hP hD rfl hl.1 (lv_room (Nat.le_of_ble_eq_true rfl)) dL_multiplier_4 ⟨by decide +kernel, by decide +kernel⟩ (fun E ce q9 u H1 locs1 hp hPE hP hD hS hz hs hc1 hc2 hc3 => ?_) (fun r u H1 locs1 hp hP hD hS hz hs => ?_)
  · refine vx_widen (k := 7501) (n := 540000) (by decide +kernel) (by decide +kernel) ?_
    rcases hPE with hu | hu
    · subst hu
      refine vx_catch (own := RL) (name := "java/lang/IllegalStateException") hown [] ⟨0, 9, 12, 32⟩ [⟨0, 9, 15, 19⟩] (by rw [htb]; rfl) (fun z hz => absurd hz List.not_mem_nil) (by decide) (by decide) (hts (.classLink RL 32 "java/lang/IllegalStateException") (by decide +kernel)) (va_Nw.use rfl (hCE.2.2.1.2.1 (.castable "java/lang/IllegalStateException" "java/lang/IllegalStateException") (by decide +kernel))) hc1 hc2 hc3 ?_
      refine lv_astore_n hx hb dL_multiplier_12 rfl hl (by decide) rfl (fun ls (hl : lv_has ls _ ([(3, .ref q9), (0, .ref q), (1, .int p1), (2, .ref o)])) => ?_)
      refine lv_iconst (v := 1) hx hb dL_multiplier_13 (by decide) ?_
      exact W.iret (v := 1) hx hb hr (fun t ht hW => ⟨⟨1, (u.1, u.2.1, u.2.2.1, u.2.2.2, g0), rfl, hp, by rw [ht]; exact hP, hD, by rw [ht]; exact hz, by rw [ht]; exact hs⟩, hS.F ht⟩) hS.2.2 dL_multiplier_14
    · subst hu
      refine vx_catch (own := RL) (name := "java/lang/IndexOutOfBoundsException") hown [⟨0, 9, 12, 32⟩] ⟨0, 9, 15, 19⟩ [] (by rw [htb]; rfl) (fun z hz => by rw [List.mem_singleton.mp hz]; exact Or.inr ⟨by decide, "java/lang/IllegalStateException", hts (.classLink RL 32 "java/lang/IllegalStateException") (by decide +kernel), hNc.1⟩) (by decide) (by decide) (hts (.classLink RL 19 "java/lang/IndexOutOfBoundsException") (by decide +kernel)) (va_Nw.use rfl (hCE.2.2.1.2.2.2.1 (.castable "java/lang/IndexOutOfBoundsException" "java/lang/IndexOutOfBoundsException") (by decide +kernel))) hc1 hc2 hc3 ?_
      refine lv_astore_n hx hb dL_multiplier_15 rfl hl (by decide) rfl (fun ls (hl : lv_has ls _ ([(3, .ref q9), (0, .ref q), (1, .int p1), (2, .ref o)])) => ?_)
      refine lv_iconst (v := 2) hx hb dL_multiplier_16 (by decide) ?_
      exact W.iret (v := 2) hx hb hr (fun t ht hW => ⟨⟨2, (u.1, u.2.1, u.2.2.1, u.2.2.2, g0), rfl, hp, by rw [ht]; exact hP, hD, by rw [ht]; exact hz, by rw [ht]; exact hs⟩, hS.F ht⟩) hS.2.2 dL_multiplier_17
  · refine W.known (fun z1 z2 => ?_)
    have zS := hS.1
    refine W.tight (cells2 := min 7501 (u.2.1 + 1000 - Fc)) (slots2 := min 540000 (u.2.2.1 + 9000 - Fs)) (by omega) (by omega) ?_
    refine lv_i2l (v := r.toInt64) hx hb dL_multiplier_7 rfl ?_
    refine va_last hx hb hK hP hD hS 0 0 rfl rfl (show ¬ ((0 : Int32) < 0 ∨ 1 ≤ (0 : Int32).toNatClampNeg) by decide) dL_multiplier_8 (fun H2 locs2 hP hD hS => ?_)
    refine lv_goto (tgt := 18) hx hb dL_multiplier_9 (by decide) ?_
    refine lv_iconst (v := 0) hx hb dL_multiplier_18 (by decide) ?_
    refine W.known (fun z3 z4 => ?_)
    refine W.widen (k := 7501) (n := 540000) (Nat.min_le_left _ _) (Nat.min_le_left _ _) ?_
    have z5 : H2.size + Fc ≤ s.heap.size + u.2.1 + 1000 := by omega
    have z6 : nS s.heap.size H2 + Fs ≤ u.2.2.1 + 9000 := by omega
    exact W.iret (v := 0) hx hb hr (fun t ht hW => ⟨⟨0, (u.1, u.2.1, u.2.2.1, u.2.2.2, vp_updL g0 (0 : Int32).toNatClampNeg r.toInt64), rfl, hp, by rw [ht]; exact hP, hD, by rw [ht]; exact z5, by rw [ht]; exact z6⟩, hS.F ht⟩) hS.2.2 dL_multiplier_19
theorem dL_holder_0 : decode cL_holder 0 = .ok (.aload_n 2, 1) := dk_44 (by decide +kernel)
theorem dL_holder_1 : decode cL_holder 1 = .ok (.iconst 0, 1) := dk_3 (by decide +kernel)
theorem dL_holder_2 : decode cL_holder 2 = .ok (.aload_n 0, 1) := dk_42 (by decide +kernel)
theorem dL_holder_3 : decode cL_holder 3 = .ok (.iload_n 1, 1) := dk_27 (by decide +kernel)
theorem dL_holder_4 : decode cL_holder 4 = .ok (.invokevirtual 60, 3) := dk_182 (by decide +kernel)
theorem dL_holder_7 : decode cL_holder 7 = .ok (.i2l, 1) := dk_133 (by decide +kernel)
theorem dL_holder_8 : decode cL_holder 8 = .ok (.lastore, 1) := dk_80 (by decide +kernel)
theorem dL_holder_9 : decode cL_holder 9 = .ok (.goto 9, 3) := dk_167 (by decide +kernel)
theorem dL_holder_12 : decode cL_holder 12 = .ok (.astore_n 3, 1) := dk_78 (by decide +kernel)
theorem dL_holder_13 : decode cL_holder 13 = .ok (.iconst 1, 1) := dk_4 (by decide +kernel)
theorem dL_holder_14 : decode cL_holder 14 = .ok (.ireturn, 1) := dk_172 (by decide +kernel)
theorem dL_holder_15 : decode cL_holder 15 = .ok (.astore_n 3, 1) := dk_78 (by decide +kernel)
theorem dL_holder_16 : decode cL_holder 16 = .ok (.iconst 2, 1) := dk_5 (by decide +kernel)
theorem dL_holder_17 : decode cL_holder 17 = .ok (.ireturn, 1) := dk_172 (by decide +kernel)
theorem dL_holder_18 : decode cL_holder 18 = .ok (.iconst 0, 1) := dk_3 (by decide +kernel)
theorem dL_holder_19 : decode cL_holder 19 = .ok (.ireturn, 1) := dk_172 (by decide +kernel)
def wsH_holder : List Cond := .codeWith yL_holder cL_holder 4 (some .int) [(0, 9, 12, 13), (0, 9, 15, 32)] :: ([.classLink RL 13 "java/lang/IllegalArgumentException", .classLink RL 32 "java/lang/IllegalStateException"] ++ (wsV RL 60 RX11 yX11_holder wsU_holder))
theorem gdwsH_holder : wsH_holder.all goodWord = true := gdC (by decide +kernel) (gdA (by decide +kernel) (gdV (by decide +kernel) gdwsU_holder))
theorem gIwsH_holder : GoodIn wsH_holder (wsV RL 60 RX11 yX11_holder wsU_holder) := goodIn_sub (fun w h => List.mem_cons_of_mem _ (List.mem_append_right _ h)) (gdV (by decide +kernel) gdwsU_holder)
set_option maxHeartbeats 4000000 in
set_option maxRecDepth 100000 in
theorem H_holder (l : Launch) (hst : l.stackTraces = false) (dC : Nat → ClassId) (dI : Nat → Nat → Nat) (kX : Nat → ClassId) (kT : Nat → ClassId) (kM : Nat → ClassId) (kV : Nat → ClassId) (kC : Nat → ClassId) (kN : Nat → ClassId) (kJ : Nat → ClassId) (kL : Nat → ClassId) (kF : Nat → ClassId) (kO : Nat → ClassId) (kQ : Nat → ClassId) (kG : Nat → ClassId) (kw : ClassId) (q : Nat) (L : LT) (Fc Fs : Nat) (w : va_W) (p1 : Int32) (o : Nat) (kR : ClassId) (g0 : Nat → Int64) (hw : ClsI kX kT kM kV kC kN kJ kL kF kO kQ kG kw q L Fc Fs w) (sz : Nat) : Met l yL_holder wsH_holder ({ frames := 7, cells := 16, slots := 1414, locals := 102 }) (va_Pc [.ref q, .int p1, .ref o] (fun U => U.heap.size = sz ∧ va_P (dC, dI) vwCl ((o, .inl (kR, 1, .inr (.inl g0))) :: w) U.heap ∧ va_K (dC, dI) vwCl ((kR, .long) :: (tX kX ++ (tT kT ++ (tM kM ++ (tV kV ++ (tC kC ++ (tN kN ++ (tJ kJ ++ (tL kL ++ (tF kF ++ (tO kO ++ (tQ kQ ++ (tG kG ++ (tW kw)))))))))))))) U ∧ va_D (fun _ => True) ((o, .inl (kR, 1, .inr (.inl g0))) :: w) ∧ CE (va_A ((o, .inl (kR, 1, .inr (.inl g0))) :: w) sz) U U.heap ∧ NcE U)) (va_Qi (fun (r : Int32) (u : (LT × Nat × Nat × va_W × (Nat → Int64))) => ClsI kX kT kM kV kC kN kJ kL kF kO kQ kG kw q u.1 u.2.1 u.2.2.1 u.2.2.2.1 ∧ ((¬ (1 ≤ p1.toInt ∧ p1.toInt ≤ 65535) ∧ u.1 = L ∧ r = 1) ∨ (((1 ≤ p1.toInt ∧ p1.toInt ≤ 65535) ∧ L.2.2.2.1 = 10) ∧ u.1 = L ∧ r = 2) ∨ (((1 ≤ p1.toInt ∧ p1.toInt ≤ 65535) ∧ L.2.2.2.1 < 10) ∧ u.1 = (L.1, L.2.1, L.2.2.1, L.2.2.2.1 + 1, L.2.2.2.2) ∧ r = 0 ∧ ∃ x : Int32, u.2.2.2.2 0 = x.toInt64 ∧ x.toInt = L.2.2.2.1))) (fun u t => va_P (dC, dI) vwCl ((o, .inl (kR, 1, .inr (.inl u.2.2.2.2))) :: u.2.2.2.1) t.heap ∧ va_D (va_A ((o, .inl (kR, 1, .inr (.inl g0))) :: w) sz) ((o, .inl (kR, 1, .inr (.inl u.2.2.2.2))) :: u.2.2.2.1) ∧ t.heap.size + Fc ≤ sz + u.2.1 + 1000 ∧ nS sz t.heap + Fs ≤ u.2.2.1 + 9000) (va_A ((o, .inl (kR, 1, .inr (.inl g0))) :: w) sz)) 16 1414 (va_A ((o, .inl (kR, 1, .inr (.inl g0))) :: w) sz) := by
  refine ofWC (hh := [(0, 9, 12, 13), (0, 9, 15, 32)]) (cc := cL_holder) (maxL := 4) (ret := (some .int)) (by decide) rfl ?_
  intro p e s m args below meth c s₁ B hml hv
  obtain ⟨rfl, hsz, hP, hK, hD0, hCE, hNc⟩ := hv
  have hx := B.exec
  have hb := B.bytes
  have hr := B.returns
  have hts := atoms_spec (ws := wsH_holder) B.pre
  have hown : s.vm.findClass RL = some m.cls := findClass_of_methodNamed B.named
  have hlocks := B.notSynchronized
  have htb : c.exceptionTable.toList = tableOf [(0, 9, 12, 13), (0, 9, 15, 32)] := vx_table (x := yL_holder) B (hts _ List.mem_cons_self)
  subst hsz
  have hD := hD0.self (sz := s.heap.size)
  generalize hAe : va_A ((o, .inl (kR, 1, .inr (.inl g0))) :: w) s.heap.size = A at hD hCE ⊢
  have hA : ∀ q : Nat, s.heap.size ≤ q → A q := fun q h => by rw [← hAe]; exact Or.inr h
  have hl := lv_entry ([.ref q, .int p1, .ref o]) (n := 4) (Nat.le_of_ble_eq_true rfl)
  rw [lg_entry_eq]
  generalize (lg_sl ([.ref q, .int p1, .ref o]) ++ List.replicate (4 - (lg_sl ([.ref q, .int p1, .ref o])).length) Slot.unset).toArray = ls at hl ⊢
  have hl : lv_has ls 4 [(0, .ref q), (1, .int p1), (2, .ref o)] := hl
  refine lv_aload_n hx hb dL_holder_0 rfl (lv_at hl 2 rfl) ?_
  refine lv_iconst (v := 0) hx hb dL_holder_1 (by decide) ?_
  refine lv_aload_n hx hb dL_holder_2 rfl (lv_at hl 0 rfl) ?_
  refine lv_iload_n hx hb dL_holder_3 rfl (lv_at hl 1 rfl) ?_
  refine lawX_i (As := [.int p1]) (rest := [.int 0, .ref o]) ⟨hx, hb, hml, hown, hts⟩ (U_holder l hst dC dI kX kT kM kV kC kN kJ kL kF kO kQ kG kw q L Fc Fs w p1 hw s.heap.size) (cwV 1 hts gIwsH_holder rfl rfl rfl (by decide +kernel) ⟨Nat.le_of_ble_eq_true rfl, Nat.le_of_ble_eq_true rfl⟩) hw.recv (hK.mem (fun _ h => List.mem_cons_of_mem _ h)) hCE hA hP hD rfl hl.1 (lv_room (Nat.le_of_ble_eq_true rfl)) dL_holder_4 ⟨by decide +kernel, by decide +kernel⟩ (fun E ce q9 u H1 locs1 hp hPE hP hD hS hz hs hc1 hc2 hc3 => ?_) (fun r u H1 locs1 hp hP hD hS hz hs => ?_)
  · refine vx_widen (k := 16) (n := 1414) (by decide +kernel) (by decide +kernel) ?_
    rcases hPE with hu | hu
    · obtain ⟨hu, hcx⟩ := hu
      subst hu
      refine vx_catch (own := RL) (name := "java/lang/IllegalArgumentException") hown [] ⟨0, 9, 12, 13⟩ [⟨0, 9, 15, 32⟩] (by rw [htb]; rfl) (fun z hz => absurd hz List.not_mem_nil) (by decide) (by decide) (hts (.classLink RL 13 "java/lang/IllegalArgumentException") (by decide +kernel)) (va_Nw.use rfl (hCE.2.2.1.2.2.1 (.castable "java/lang/IllegalArgumentException" "java/lang/IllegalArgumentException") (by decide +kernel))) hc1 hc2 hc3 ?_
      refine lv_astore_n hx hb dL_holder_12 rfl hl (by decide) rfl (fun ls (hl : lv_has ls _ ([(3, .ref q9), (0, .ref q), (1, .int p1), (2, .ref o)])) => ?_)
      refine lv_iconst (v := 1) hx hb dL_holder_13 (by decide) ?_
      exact W.iret (v := 1) hx hb hr (fun t ht hW => ⟨⟨1, (u.1, u.2.1, u.2.2.1, u.2.2.2, g0), rfl, ⟨hp.1, Or.inl ⟨hcx, hp.2, rfl⟩⟩, by rw [ht]; exact hP, hD, by rw [ht]; exact hz, by rw [ht]; exact hs⟩, hS.F ht⟩) hS.2.2 dL_holder_14
    · obtain ⟨hu, hcx⟩ := hu
      subst hu
      refine vx_catch (own := RL) (name := "java/lang/IllegalStateException") hown [⟨0, 9, 12, 13⟩] ⟨0, 9, 15, 32⟩ [] (by rw [htb]; rfl) (fun z hz => by rw [List.mem_singleton.mp hz]; exact Or.inr ⟨by decide, "java/lang/IllegalArgumentException", hts (.classLink RL 13 "java/lang/IllegalArgumentException") (by decide +kernel), hNc.2.1⟩) (by decide) (by decide) (hts (.classLink RL 32 "java/lang/IllegalStateException") (by decide +kernel)) (va_Nw.use rfl (hCE.2.2.1.2.1 (.castable "java/lang/IllegalStateException" "java/lang/IllegalStateException") (by decide +kernel))) hc1 hc2 hc3 ?_
      refine lv_astore_n hx hb dL_holder_15 rfl hl (by decide) rfl (fun ls (hl : lv_has ls _ ([(3, .ref q9), (0, .ref q), (1, .int p1), (2, .ref o)])) => ?_)
      refine lv_iconst (v := 2) hx hb dL_holder_16 (by decide) ?_
      exact W.iret (v := 2) hx hb hr (fun t ht hW => ⟨⟨2, (u.1, u.2.1, u.2.2.1, u.2.2.2, g0), rfl, ⟨hp.1, Or.inr (Or.inl ⟨hcx, hp.2, rfl⟩)⟩, by rw [ht]; exact hP, hD, by rw [ht]; exact hz, by rw [ht]; exact hs⟩, hS.F ht⟩) hS.2.2 dL_holder_17
  · refine W.known (fun z1 z2 => ?_)
    have zS := hS.1
    refine W.tight (cells2 := min 16 (u.2.1 + 1000 - Fc)) (slots2 := min 1414 (u.2.2.1 + 9000 - Fs)) (by omega) (by omega) ?_
    refine lv_i2l (v := r.toInt64) hx hb dL_holder_7 rfl ?_
    refine va_last hx hb hK hP hD hS 0 0 rfl rfl (show ¬ ((0 : Int32) < 0 ∨ 1 ≤ (0 : Int32).toNatClampNeg) by decide) dL_holder_8 (fun H2 locs2 hP hD hS => ?_)
    refine lv_goto (tgt := 18) hx hb dL_holder_9 (by decide) ?_
    refine lv_iconst (v := 0) hx hb dL_holder_18 (by decide) ?_
    refine W.known (fun z3 z4 => ?_)
    refine W.widen (k := 16) (n := 1414) (Nat.min_le_left _ _) (Nat.min_le_left _ _) ?_
    have z5 : H2.size + Fc ≤ s.heap.size + u.2.1 + 1000 := by omega
    have z6 : nS s.heap.size H2 + Fs ≤ u.2.2.1 + 9000 := by omega
    exact W.iret (v := 0) hx hb hr (fun t ht hW => ⟨⟨0, (u.1, u.2.1, u.2.2.1, u.2.2.2, vp_updL g0 (0 : Int32).toNatClampNeg r.toInt64), rfl, ⟨hp.1, Or.inr (Or.inr ⟨hp.2.1, hp.2.2.1, rfl, r, updL_0 (g := g0) (x := r.toInt64), hp.2.2.2⟩)⟩, by rw [ht]; exact hP, hD, by rw [ht]; exact z5, by rw [ht]; exact z6⟩, hS.F ht⟩) hS.2.2 dL_holder_19
theorem dL_rule_0 : decode cL_rule 0 = .ok (.aload 5, 2) := dk_25 (by decide +kernel)
theorem dL_rule_2 : decode cL_rule 2 = .ok (.iconst 0, 1) := dk_3 (by decide +kernel)
theorem dL_rule_3 : decode cL_rule 3 = .ok (.aload_n 0, 1) := dk_42 (by decide +kernel)
theorem dL_rule_4 : decode cL_rule 4 = .ok (.iload_n 1, 1) := dk_27 (by decide +kernel)
theorem dL_rule_5 : decode cL_rule 5 = .ok (.iload_n 2, 1) := dk_28 (by decide +kernel)
theorem dL_rule_6 : decode cL_rule 6 = .ok (.iload_n 3, 1) := dk_29 (by decide +kernel)
theorem dL_rule_7 : decode cL_rule 7 = .ok (.iload 4, 2) := dk_21 (by decide +kernel)
theorem dL_rule_9 : decode cL_rule 9 = .ok (.invokevirtual 63, 3) := dk_182 (by decide +kernel)
theorem dL_rule_12 : decode cL_rule 12 = .ok (.i2l, 1) := dk_133 (by decide +kernel)
theorem dL_rule_13 : decode cL_rule 13 = .ok (.lastore, 1) := dk_80 (by decide +kernel)
theorem dL_rule_14 : decode cL_rule 14 = .ok (.goto 11, 3) := dk_167 (by decide +kernel)
theorem dL_rule_17 : decode cL_rule 17 = .ok (.astore 6, 2) := dk_58 (by decide +kernel)
theorem dL_rule_19 : decode cL_rule 19 = .ok (.iconst 1, 1) := dk_4 (by decide +kernel)
theorem dL_rule_20 : decode cL_rule 20 = .ok (.ireturn, 1) := dk_172 (by decide +kernel)
theorem dL_rule_21 : decode cL_rule 21 = .ok (.astore 6, 2) := dk_58 (by decide +kernel)
theorem dL_rule_23 : decode cL_rule 23 = .ok (.iconst 2, 1) := dk_5 (by decide +kernel)
theorem dL_rule_24 : decode cL_rule 24 = .ok (.ireturn, 1) := dk_172 (by decide +kernel)
theorem dL_rule_25 : decode cL_rule 25 = .ok (.iconst 0, 1) := dk_3 (by decide +kernel)
theorem dL_rule_26 : decode cL_rule 26 = .ok (.ireturn, 1) := dk_172 (by decide +kernel)
def wsH_rule : List Cond := .codeWith yL_rule cL_rule 7 (some .int) [(0, 14, 17, 13), (0, 14, 21, 32)] :: ([.classLink RL 13 "java/lang/IllegalArgumentException", .classLink RL 32 "java/lang/IllegalStateException"] ++ (wsV RL 63 RX11 yX11_rule wsU_rule))
theorem gdwsH_rule : wsH_rule.all goodWord = true := gdC (by decide +kernel) (gdA (by decide +kernel) (gdV (by decide +kernel) gdwsU_rule))
theorem gIwsH_rule : GoodIn wsH_rule (wsV RL 63 RX11 yX11_rule wsU_rule) := goodIn_sub (fun w h => List.mem_cons_of_mem _ (List.mem_append_right _ h)) (gdV (by decide +kernel) gdwsU_rule)
set_option maxHeartbeats 4000000 in
set_option maxRecDepth 100000 in
theorem H_rule (l : Launch) (hst : l.stackTraces = false) (dC : Nat → ClassId) (dI : Nat → Nat → Nat) (kX : Nat → ClassId) (kT : Nat → ClassId) (kM : Nat → ClassId) (kV : Nat → ClassId) (kC : Nat → ClassId) (kN : Nat → ClassId) (kJ : Nat → ClassId) (kL : Nat → ClassId) (kF : Nat → ClassId) (kO : Nat → ClassId) (kQ : Nat → ClassId) (kG : Nat → ClassId) (kw : ClassId) (q : Nat) (L : LT) (Fc Fs : Nat) (w : va_W) (p1 : Int32) (p2 : Int32) (p3 : Int32) (p4 : Int32) (o : Nat) (kR : ClassId) (g0 : Nat → Int64) (hw : ClsI kX kT kM kV kC kN kJ kL kF kO kQ kG kw q L Fc Fs w) (sz : Nat) : Met l yL_rule wsH_rule ({ frames := 7, cells := 16, slots := 1414, locals := 105 }) (va_Pc [.ref q, .int p1, .int p2, .int p3, .int p4, .ref o] (fun U => U.heap.size = sz ∧ va_P (dC, dI) vwCl ((o, .inl (kR, 1, .inr (.inl g0))) :: w) U.heap ∧ va_K (dC, dI) vwCl ((kR, .long) :: (tX kX ++ (tT kT ++ (tM kM ++ (tV kV ++ (tC kC ++ (tN kN ++ (tJ kJ ++ (tL kL ++ (tF kF ++ (tO kO ++ (tQ kQ ++ (tG kG ++ (tW kw)))))))))))))) U ∧ va_D (fun _ => True) ((o, .inl (kR, 1, .inr (.inl g0))) :: w) ∧ CE (va_A ((o, .inl (kR, 1, .inr (.inl g0))) :: w) sz) U U.heap ∧ NcE U)) (va_Qi (fun (r : Int32) (u : (LT × Nat × Nat × va_W × (Nat → Int64))) => ClsI kX kT kM kV kC kN kJ kL kF kO kQ kG kw q u.1 u.2.1 u.2.2.1 u.2.2.2.1 ∧ (∃ hI : Int32, hI.toInt = L.2.2.2.1 ∧ ((¬ RulX p1 p2 p3 p4 hI ∧ u.1 = L ∧ r = 1) ∨ ((RulX p1 p2 p3 p4 hI ∧ L.2.2.2.2 = 12) ∧ u.1 = L ∧ r = 2) ∨ ((RulX p1 p2 p3 p4 hI ∧ L.2.2.2.2 < 12) ∧ u.1 = (L.1, L.2.1, L.2.2.1, L.2.2.2.1, L.2.2.2.2 + 1) ∧ r = 0 ∧ ∃ x : Int32, u.2.2.2.2 0 = x.toInt64 ∧ x.toInt = L.2.2.2.2)))) (fun u t => va_P (dC, dI) vwCl ((o, .inl (kR, 1, .inr (.inl u.2.2.2.2))) :: u.2.2.2.1) t.heap ∧ va_D (va_A ((o, .inl (kR, 1, .inr (.inl g0))) :: w) sz) ((o, .inl (kR, 1, .inr (.inl u.2.2.2.2))) :: u.2.2.2.1) ∧ t.heap.size + Fc ≤ sz + u.2.1 + 1000 ∧ nS sz t.heap + Fs ≤ u.2.2.1 + 9000) (va_A ((o, .inl (kR, 1, .inr (.inl g0))) :: w) sz)) 16 1414 (va_A ((o, .inl (kR, 1, .inr (.inl g0))) :: w) sz) := by
  refine ofWC (hh := [(0, 14, 17, 13), (0, 14, 21, 32)]) (cc := cL_rule) (maxL := 7) (ret := (some .int)) (by decide) rfl ?_
  intro p e s m args below meth c s₁ B hml hv
  obtain ⟨rfl, hsz, hP, hK, hD0, hCE, hNc⟩ := hv
  have hx := B.exec
  have hb := B.bytes
  have hr := B.returns
  have hts := atoms_spec (ws := wsH_rule) B.pre
  have hown : s.vm.findClass RL = some m.cls := findClass_of_methodNamed B.named
  have hlocks := B.notSynchronized
  have htb : c.exceptionTable.toList = tableOf [(0, 14, 17, 13), (0, 14, 21, 32)] := vx_table (x := yL_rule) B (hts _ List.mem_cons_self)
  subst hsz
  have hD := hD0.self (sz := s.heap.size)
  generalize hAe : va_A ((o, .inl (kR, 1, .inr (.inl g0))) :: w) s.heap.size = A at hD hCE ⊢
  have hA : ∀ q : Nat, s.heap.size ≤ q → A q := fun q h => by rw [← hAe]; exact Or.inr h
  have hl := lv_entry ([.ref q, .int p1, .int p2, .int p3, .int p4, .ref o]) (n := 7) (Nat.le_of_ble_eq_true rfl)
  rw [lg_entry_eq]
  generalize (lg_sl ([.ref q, .int p1, .int p2, .int p3, .int p4, .ref o]) ++ List.replicate (7 - (lg_sl ([.ref q, .int p1, .int p2, .int p3, .int p4, .ref o])).length) Slot.unset).toArray = ls at hl ⊢
  have hl : lv_has ls 7 [(0, .ref q), (1, .int p1), (2, .int p2), (3, .int p3), (4, .int p4), (5, .ref o)] := hl
  refine lv_aload hx hb dL_rule_0 (lv_at hl 5 rfl) ?_
  refine lv_iconst (v := 0) hx hb dL_rule_2 (by decide) ?_
  refine lv_aload_n hx hb dL_rule_3 rfl (lv_at hl 0 rfl) ?_
  refine lv_iload_n hx hb dL_rule_4 rfl (lv_at hl 1 rfl) ?_
  refine lv_iload_n hx hb dL_rule_5 rfl (lv_at hl 2 rfl) ?_
  refine lv_iload_n hx hb dL_rule_6 rfl (lv_at hl 3 rfl) ?_
  refine lv_iload hx hb dL_rule_7 (lv_at hl 4 rfl) ?_
  refine lawX_i (As := [.int p1, .int p2, .int p3, .int p4]) (rest := [.int 0, .ref o]) ⟨hx, hb, hml, hown, hts⟩ (U_rule l hst dC dI kX kT kM kV kC kN kJ kL kF kO kQ kG kw q L Fc Fs w p1 p2 p3 p4 hw s.heap.size) (cwV 4 hts gIwsH_rule rfl rfl rfl (by decide +kernel) ⟨Nat.le_of_ble_eq_true rfl, Nat.le_of_ble_eq_true rfl⟩) hw.recv (hK.mem (fun _ h => List.mem_cons_of_mem _ h)) hCE hA hP hD rfl hl.1 (lv_room (Nat.le_of_ble_eq_true rfl)) dL_rule_9 ⟨by decide +kernel, by decide +kernel⟩ (fun E ce q9 u H1 locs1 hp hPE hP hD hS hz hs hc1 hc2 hc3 => ?_) (fun r u H1 locs1 hp hP hD hS hz hs => ?_)
  · refine vx_widen (k := 16) (n := 1414) (by decide +kernel) (by decide +kernel) ?_
    rcases hPE with hu | hu
    · obtain ⟨hu, hcx⟩ := hu
      subst hu
      refine vx_catch (own := RL) (name := "java/lang/IllegalStateException") hown [⟨0, 14, 17, 13⟩] ⟨0, 14, 21, 32⟩ [] (by rw [htb]; rfl) (fun z hz => by rw [List.mem_singleton.mp hz]; exact Or.inr ⟨by decide, "java/lang/IllegalArgumentException", hts (.classLink RL 13 "java/lang/IllegalArgumentException") (by decide +kernel), hNc.2.1⟩) (by decide) (by decide) (hts (.classLink RL 32 "java/lang/IllegalStateException") (by decide +kernel)) (va_Nw.use rfl (hCE.2.2.1.2.1 (.castable "java/lang/IllegalStateException" "java/lang/IllegalStateException") (by decide +kernel))) hc1 hc2 hc3 ?_
      refine lv_astore hx hb dL_rule_21 hl (by decide) rfl (fun ls (hl : lv_has ls _ ([(6, .ref q9), (0, .ref q), (1, .int p1), (2, .int p2), (3, .int p3), (4, .int p4), (5, .ref o)])) => ?_)
      refine lv_iconst (v := 2) hx hb dL_rule_23 (by decide) ?_
      exact W.iret (v := 2) hx hb hr (fun t ht hW => ⟨⟨2, (u.1, u.2.1, u.2.2.1, u.2.2.2, g0), rfl, ⟨hp.1, hcx.elim (fun hI h => ⟨hI, h.1, Or.inr (Or.inl ⟨h.2, hp.2, rfl⟩)⟩)⟩, by rw [ht]; exact hP, hD, by rw [ht]; exact hz, by rw [ht]; exact hs⟩, hS.F ht⟩) hS.2.2 dL_rule_24
    · obtain ⟨hu, hcx⟩ := hu
      subst hu
      refine vx_catch (own := RL) (name := "java/lang/IllegalArgumentException") hown [] ⟨0, 14, 17, 13⟩ [⟨0, 14, 21, 32⟩] (by rw [htb]; rfl) (fun z hz => absurd hz List.not_mem_nil) (by decide) (by decide) (hts (.classLink RL 13 "java/lang/IllegalArgumentException") (by decide +kernel)) (va_Nw.use rfl (hCE.2.2.1.2.2.1 (.castable "java/lang/IllegalArgumentException" "java/lang/IllegalArgumentException") (by decide +kernel))) hc1 hc2 hc3 ?_
      refine lv_astore hx hb dL_rule_17 hl (by decide) rfl (fun ls (hl : lv_has ls _ ([(6, .ref q9), (0, .ref q), (1, .int p1), (2, .int p2), (3, .int p3), (4, .int p4), (5, .ref o)])) => ?_)
      refine lv_iconst (v := 1) hx hb dL_rule_19 (by decide) ?_
      exact W.iret (v := 1) hx hb hr (fun t ht hW => ⟨⟨1, (u.1, u.2.1, u.2.2.1, u.2.2.2, g0), rfl, ⟨hp.1, hcx.elim (fun hI h => ⟨hI, h.1, Or.inl ⟨h.2, hp.2, rfl⟩⟩)⟩, by rw [ht]; exact hP, hD, by rw [ht]; exact hz, by rw [ht]; exact hs⟩, hS.F ht⟩) hS.2.2 dL_rule_20
  · refine W.known (fun z1 z2 => ?_)
    have zS := hS.1
    refine W.tight (cells2 := min 16 (u.2.1 + 1000 - Fc)) (slots2 := min 1414 (u.2.2.1 + 9000 - Fs)) (by omega) (by omega) ?_
    refine lv_i2l (v := r.toInt64) hx hb dL_rule_12 rfl ?_
    refine va_last hx hb hK hP hD hS 0 0 rfl rfl (show ¬ ((0 : Int32) < 0 ∨ 1 ≤ (0 : Int32).toNatClampNeg) by decide) dL_rule_13 (fun H2 locs2 hP hD hS => ?_)
    refine lv_goto (tgt := 25) hx hb dL_rule_14 (by decide) ?_
    refine lv_iconst (v := 0) hx hb dL_rule_25 (by decide) ?_
    refine W.known (fun z3 z4 => ?_)
    refine W.widen (k := 16) (n := 1414) (Nat.min_le_left _ _) (Nat.min_le_left _ _) ?_
    have z5 : H2.size + Fc ≤ s.heap.size + u.2.1 + 1000 := by omega
    have z6 : nS s.heap.size H2 + Fs ≤ u.2.2.1 + 9000 := by omega
    exact W.iret (v := 0) hx hb hr (fun t ht hW => ⟨⟨0, (u.1, u.2.1, u.2.2.1, u.2.2.2, vp_updL g0 (0 : Int32).toNatClampNeg r.toInt64), rfl, ⟨hp.1, hp.2.elim (fun hI h => ⟨hI, h.1, Or.inr (Or.inr ⟨h.2.1, h.2.2.1, rfl, r, updL_0 (g := g0) (x := r.toInt64), h.2.2.2⟩)⟩)⟩, by rw [ht]; exact hP, hD, by rw [ht]; exact z5, by rw [ht]; exact z6⟩, hS.F ht⟩) hS.2.2 dL_rule_26
theorem dL_clause_0 : decode cL_clause 0 = .ok (.aload 4, 2) := dk_25 (by decide +kernel)
theorem dL_clause_2 : decode cL_clause 2 = .ok (.iconst 0, 1) := dk_3 (by decide +kernel)
theorem dL_clause_3 : decode cL_clause 3 = .ok (.aload_n 0, 1) := dk_42 (by decide +kernel)
theorem dL_clause_4 : decode cL_clause 4 = .ok (.iload_n 1, 1) := dk_27 (by decide +kernel)
theorem dL_clause_5 : decode cL_clause 5 = .ok (.iload_n 2, 1) := dk_28 (by decide +kernel)
theorem dL_clause_6 : decode cL_clause 6 = .ok (.iload_n 3, 1) := dk_29 (by decide +kernel)
theorem dL_clause_7 : decode cL_clause 7 = .ok (.invokevirtual 67, 3) := dk_182 (by decide +kernel)
theorem dL_clause_10 : decode cL_clause 10 = .ok (.i2l, 1) := dk_133 (by decide +kernel)
theorem dL_clause_11 : decode cL_clause 11 = .ok (.lastore, 1) := dk_80 (by decide +kernel)
theorem dL_clause_12 : decode cL_clause 12 = .ok (.goto 11, 3) := dk_167 (by decide +kernel)
theorem dL_clause_15 : decode cL_clause 15 = .ok (.astore 5, 2) := dk_58 (by decide +kernel)
theorem dL_clause_17 : decode cL_clause 17 = .ok (.iconst 1, 1) := dk_4 (by decide +kernel)
theorem dL_clause_18 : decode cL_clause 18 = .ok (.ireturn, 1) := dk_172 (by decide +kernel)
theorem dL_clause_19 : decode cL_clause 19 = .ok (.astore 5, 2) := dk_58 (by decide +kernel)
theorem dL_clause_21 : decode cL_clause 21 = .ok (.iconst 2, 1) := dk_5 (by decide +kernel)
theorem dL_clause_22 : decode cL_clause 22 = .ok (.ireturn, 1) := dk_172 (by decide +kernel)
theorem dL_clause_23 : decode cL_clause 23 = .ok (.iconst 0, 1) := dk_3 (by decide +kernel)
theorem dL_clause_24 : decode cL_clause 24 = .ok (.ireturn, 1) := dk_172 (by decide +kernel)
def wsH_clause : List Cond := .codeWith yL_clause cL_clause 6 (some .int) [(0, 12, 15, 13), (0, 12, 19, 32)] :: ([.classLink RL 13 "java/lang/IllegalArgumentException", .classLink RL 32 "java/lang/IllegalStateException"] ++ (wsV RL 67 RX11 yX11_clause wsU_clause))
theorem gdwsH_clause : wsH_clause.all goodWord = true := gdC (by decide +kernel) (gdA (by decide +kernel) (gdV (by decide +kernel) gdwsU_clause))
theorem gIwsH_clause : GoodIn wsH_clause (wsV RL 67 RX11 yX11_clause wsU_clause) := goodIn_sub (fun w h => List.mem_cons_of_mem _ (List.mem_append_right _ h)) (gdV (by decide +kernel) gdwsU_clause)
set_option maxHeartbeats 4000000 in
set_option maxRecDepth 100000 in
theorem H_clause (l : Launch) (hst : l.stackTraces = false) (dC : Nat → ClassId) (dI : Nat → Nat → Nat) (kX : Nat → ClassId) (kT : Nat → ClassId) (kM : Nat → ClassId) (kV : Nat → ClassId) (kC : Nat → ClassId) (kN : Nat → ClassId) (kJ : Nat → ClassId) (kL : Nat → ClassId) (kF : Nat → ClassId) (kO : Nat → ClassId) (kQ : Nat → ClassId) (kG : Nat → ClassId) (kw : ClassId) (q : Nat) (L : LT) (Fc Fs : Nat) (w : va_W) (p1 : Int32) (p2 : Int32) (p3 : Int32) (o : Nat) (kR : ClassId) (g0 : Nat → Int64) (hw : ClsI kX kT kM kV kC kN kJ kL kF kO kQ kG kw q L Fc Fs w) (sz : Nat) : Met l yL_clause wsH_clause ({ frames := 7, cells := 7, slots := 8277, locals := 105 }) (va_Pc [.ref q, .int p1, .int p2, .int p3, .ref o] (fun U => U.heap.size = sz ∧ va_P (dC, dI) vwCl ((o, .inl (kR, 1, .inr (.inl g0))) :: w) U.heap ∧ va_K (dC, dI) vwCl ((kR, .long) :: (tX kX ++ (tT kT ++ (tM kM ++ (tV kV ++ (tC kC ++ (tN kN ++ (tJ kJ ++ (tL kL ++ (tF kF ++ (tO kO ++ (tQ kQ ++ (tG kG ++ (tW kw)))))))))))))) U ∧ va_D (fun _ => True) ((o, .inl (kR, 1, .inr (.inl g0))) :: w) ∧ CE (va_A ((o, .inl (kR, 1, .inr (.inl g0))) :: w) sz) U U.heap ∧ NcE U)) (va_Qi (fun (r : Int32) (u : (LT × Nat × Nat × va_W × (Nat → Int64))) => ClsI kX kT kM kV kC kN kJ kL kF kO kQ kG kw q u.1 u.2.1 u.2.2.1 u.2.2.2.1 ∧ ((¬ (0 ≤ p1.toInt ∧ p1.toInt ≤ 4095 ∧ 0 ≤ p2.toInt ∧ p2.toInt ≤ 4095 ∧ (p1 ||| p2).toInt ≠ 0 ∧ (p1 &&& p2).toInt = 0 ∧ 0 ≤ p3.toInt ∧ p3.toInt ≤ 1000) ∧ u.1 = L ∧ r = 1) ∨ (((0 ≤ p1.toInt ∧ p1.toInt ≤ 4095 ∧ 0 ≤ p2.toInt ∧ p2.toInt ≤ 4095 ∧ (p1 ||| p2).toInt ≠ 0 ∧ (p1 &&& p2).toInt = 0 ∧ 0 ≤ p3.toInt ∧ p3.toInt ≤ 1000) ∧ L.2.2.1.1 = 24) ∧ u.1 = L ∧ r = 2) ∨ (((0 ≤ p1.toInt ∧ p1.toInt ≤ 4095 ∧ 0 ≤ p2.toInt ∧ p2.toInt ≤ 4095 ∧ (p1 ||| p2).toInt ≠ 0 ∧ (p1 &&& p2).toInt = 0 ∧ 0 ≤ p3.toInt ∧ p3.toInt ≤ 1000) ∧ L.2.2.1.1 < 24) ∧ u.1 = (L.1, L.2.1, clAdd L.2.2.1 p1 p2 p3, L.2.2.2) ∧ r = 0 ∧ ∃ x : Int32, u.2.2.2.2 0 = x.toInt64 ∧ x.toInt = L.2.2.1.1))) (fun u t => va_P (dC, dI) vwCl ((o, .inl (kR, 1, .inr (.inl u.2.2.2.2))) :: u.2.2.2.1) t.heap ∧ va_D (va_A ((o, .inl (kR, 1, .inr (.inl g0))) :: w) sz) ((o, .inl (kR, 1, .inr (.inl u.2.2.2.2))) :: u.2.2.2.1) ∧ t.heap.size + Fc ≤ sz + u.2.1 + 1000 ∧ nS sz t.heap + Fs ≤ u.2.2.1 + 9000) (va_A ((o, .inl (kR, 1, .inr (.inl g0))) :: w) sz)) 7 8277 (va_A ((o, .inl (kR, 1, .inr (.inl g0))) :: w) sz) := by
  refine ofWC (hh := [(0, 12, 15, 13), (0, 12, 19, 32)]) (cc := cL_clause) (maxL := 6) (ret := (some .int)) (by decide) rfl ?_
  intro p e s m args below meth c s₁ B hml hv
  obtain ⟨rfl, hsz, hP, hK, hD0, hCE, hNc⟩ := hv
  have hx := B.exec
  have hb := B.bytes
  have hr := B.returns
  have hts := atoms_spec (ws := wsH_clause) B.pre
  have hown : s.vm.findClass RL = some m.cls := findClass_of_methodNamed B.named
  have hlocks := B.notSynchronized
  have htb : c.exceptionTable.toList = tableOf [(0, 12, 15, 13), (0, 12, 19, 32)] := vx_table (x := yL_clause) B (hts _ List.mem_cons_self)
  subst hsz
  have hD := hD0.self (sz := s.heap.size)
  generalize hAe : va_A ((o, .inl (kR, 1, .inr (.inl g0))) :: w) s.heap.size = A at hD hCE ⊢
  have hA : ∀ q : Nat, s.heap.size ≤ q → A q := fun q h => by rw [← hAe]; exact Or.inr h
  have hl := lv_entry ([.ref q, .int p1, .int p2, .int p3, .ref o]) (n := 6) (Nat.le_of_ble_eq_true rfl)
  rw [lg_entry_eq]
  generalize (lg_sl ([.ref q, .int p1, .int p2, .int p3, .ref o]) ++ List.replicate (6 - (lg_sl ([.ref q, .int p1, .int p2, .int p3, .ref o])).length) Slot.unset).toArray = ls at hl ⊢
  have hl : lv_has ls 6 [(0, .ref q), (1, .int p1), (2, .int p2), (3, .int p3), (4, .ref o)] := hl
  refine lv_aload hx hb dL_clause_0 (lv_at hl 4 rfl) ?_
  refine lv_iconst (v := 0) hx hb dL_clause_2 (by decide) ?_
  refine lv_aload_n hx hb dL_clause_3 rfl (lv_at hl 0 rfl) ?_
  refine lv_iload_n hx hb dL_clause_4 rfl (lv_at hl 1 rfl) ?_
  refine lv_iload_n hx hb dL_clause_5 rfl (lv_at hl 2 rfl) ?_
  refine lv_iload_n hx hb dL_clause_6 rfl (lv_at hl 3 rfl) ?_
  refine lawX_i (As := [.int p1, .int p2, .int p3]) (rest := [.int 0, .ref o]) ⟨hx, hb, hml, hown, hts⟩ (U_clause l hst dC dI kX kT kM kV kC kN kJ kL kF kO kQ kG kw q L Fc Fs w p1 p2 p3 hw s.heap.size) (cwV 3 hts gIwsH_clause rfl rfl rfl (by decide +kernel) ⟨Nat.le_of_ble_eq_true rfl, Nat.le_of_ble_eq_true rfl⟩) hw.recv (hK.mem (fun _ h => List.mem_cons_of_mem _ h)) hCE hA hP hD rfl hl.1 (lv_room (Nat.le_of_ble_eq_true rfl)) dL_clause_7 ⟨by decide +kernel, by decide +kernel⟩ (fun E ce q9 u H1 locs1 hp hPE hP hD hS hz hs hc1 hc2 hc3 => ?_) (fun r u H1 locs1 hp hP hD hS hz hs => ?_)
  · refine vx_widen (k := 7) (n := 8277) (by decide +kernel) (by decide +kernel) ?_
    rcases hPE with hu | hu
    · obtain ⟨hu, hcx⟩ := hu
      subst hu
      refine vx_catch (own := RL) (name := "java/lang/IllegalArgumentException") hown [] ⟨0, 12, 15, 13⟩ [⟨0, 12, 19, 32⟩] (by rw [htb]; rfl) (fun z hz => absurd hz List.not_mem_nil) (by decide) (by decide) (hts (.classLink RL 13 "java/lang/IllegalArgumentException") (by decide +kernel)) (va_Nw.use rfl (hCE.2.2.1.2.2.1 (.castable "java/lang/IllegalArgumentException" "java/lang/IllegalArgumentException") (by decide +kernel))) hc1 hc2 hc3 ?_
      refine lv_astore hx hb dL_clause_15 hl (by decide) rfl (fun ls (hl : lv_has ls _ ([(5, .ref q9), (0, .ref q), (1, .int p1), (2, .int p2), (3, .int p3), (4, .ref o)])) => ?_)
      refine lv_iconst (v := 1) hx hb dL_clause_17 (by decide) ?_
      exact W.iret (v := 1) hx hb hr (fun t ht hW => ⟨⟨1, (u.1, u.2.1, u.2.2.1, u.2.2.2, g0), rfl, ⟨hp.1, Or.inl ⟨hcx, hp.2, rfl⟩⟩, by rw [ht]; exact hP, hD, by rw [ht]; exact hz, by rw [ht]; exact hs⟩, hS.F ht⟩) hS.2.2 dL_clause_18
    · obtain ⟨hu, hcx⟩ := hu
      subst hu
      refine vx_catch (own := RL) (name := "java/lang/IllegalStateException") hown [⟨0, 12, 15, 13⟩] ⟨0, 12, 19, 32⟩ [] (by rw [htb]; rfl) (fun z hz => by rw [List.mem_singleton.mp hz]; exact Or.inr ⟨by decide, "java/lang/IllegalArgumentException", hts (.classLink RL 13 "java/lang/IllegalArgumentException") (by decide +kernel), hNc.2.1⟩) (by decide) (by decide) (hts (.classLink RL 32 "java/lang/IllegalStateException") (by decide +kernel)) (va_Nw.use rfl (hCE.2.2.1.2.1 (.castable "java/lang/IllegalStateException" "java/lang/IllegalStateException") (by decide +kernel))) hc1 hc2 hc3 ?_
      refine lv_astore hx hb dL_clause_19 hl (by decide) rfl (fun ls (hl : lv_has ls _ ([(5, .ref q9), (0, .ref q), (1, .int p1), (2, .int p2), (3, .int p3), (4, .ref o)])) => ?_)
      refine lv_iconst (v := 2) hx hb dL_clause_21 (by decide) ?_
      exact W.iret (v := 2) hx hb hr (fun t ht hW => ⟨⟨2, (u.1, u.2.1, u.2.2.1, u.2.2.2, g0), rfl, ⟨hp.1, Or.inr (Or.inl ⟨hcx, hp.2, rfl⟩)⟩, by rw [ht]; exact hP, hD, by rw [ht]; exact hz, by rw [ht]; exact hs⟩, hS.F ht⟩) hS.2.2 dL_clause_22
  · refine W.known (fun z1 z2 => ?_)
    have zS := hS.1
    refine W.tight (cells2 := min 7 (u.2.1 + 1000 - Fc)) (slots2 := min 8277 (u.2.2.1 + 9000 - Fs)) (by omega) (by omega) ?_
    refine lv_i2l (v := r.toInt64) hx hb dL_clause_10 rfl ?_
    refine va_last hx hb hK hP hD hS 0 0 rfl rfl (show ¬ ((0 : Int32) < 0 ∨ 1 ≤ (0 : Int32).toNatClampNeg) by decide) dL_clause_11 (fun H2 locs2 hP hD hS => ?_)
    refine lv_goto (tgt := 23) hx hb dL_clause_12 (by decide) ?_
    refine lv_iconst (v := 0) hx hb dL_clause_23 (by decide) ?_
    refine W.known (fun z3 z4 => ?_)
    refine W.widen (k := 7) (n := 8277) (Nat.min_le_left _ _) (Nat.min_le_left _ _) ?_
    have z5 : H2.size + Fc ≤ s.heap.size + u.2.1 + 1000 := by omega
    have z6 : nS s.heap.size H2 + Fs ≤ u.2.2.1 + 9000 := by omega
    exact W.iret (v := 0) hx hb hr (fun t ht hW => ⟨⟨0, (u.1, u.2.1, u.2.2.1, u.2.2.2, vp_updL g0 (0 : Int32).toNatClampNeg r.toInt64), rfl, ⟨hp.1, Or.inr (Or.inr ⟨hp.2.1, hp.2.2.1, rfl, r, updL_0 (g := g0) (x := r.toInt64), hp.2.2.2⟩)⟩, by rw [ht]; exact hP, hD, by rw [ht]; exact z5, by rw [ht]; exact z6⟩, hS.F ht⟩) hS.2.2 dL_clause_24
theorem dL_arc_0 : decode cL_arc 0 = .ok (.aload 5, 2) := dk_25 (by decide +kernel)
theorem dL_arc_2 : decode cL_arc 2 = .ok (.iconst 0, 1) := dk_3 (by decide +kernel)
theorem dL_arc_3 : decode cL_arc 3 = .ok (.aload_n 0, 1) := dk_42 (by decide +kernel)
theorem dL_arc_4 : decode cL_arc 4 = .ok (.iload_n 1, 1) := dk_27 (by decide +kernel)
theorem dL_arc_5 : decode cL_arc 5 = .ok (.iload_n 2, 1) := dk_28 (by decide +kernel)
theorem dL_arc_6 : decode cL_arc 6 = .ok (.iload_n 3, 1) := dk_29 (by decide +kernel)
theorem dL_arc_7 : decode cL_arc 7 = .ok (.iload 4, 2) := dk_21 (by decide +kernel)
theorem dL_arc_9 : decode cL_arc 9 = .ok (.invokevirtual 70, 3) := dk_182 (by decide +kernel)
theorem dL_arc_12 : decode cL_arc 12 = .ok (.i2l, 1) := dk_133 (by decide +kernel)
theorem dL_arc_13 : decode cL_arc 13 = .ok (.lastore, 1) := dk_80 (by decide +kernel)
theorem dL_arc_14 : decode cL_arc 14 = .ok (.goto 11, 3) := dk_167 (by decide +kernel)
theorem dL_arc_17 : decode cL_arc 17 = .ok (.astore 6, 2) := dk_58 (by decide +kernel)
theorem dL_arc_19 : decode cL_arc 19 = .ok (.iconst 1, 1) := dk_4 (by decide +kernel)
theorem dL_arc_20 : decode cL_arc 20 = .ok (.ireturn, 1) := dk_172 (by decide +kernel)
theorem dL_arc_21 : decode cL_arc 21 = .ok (.astore 6, 2) := dk_58 (by decide +kernel)
theorem dL_arc_23 : decode cL_arc 23 = .ok (.iconst 2, 1) := dk_5 (by decide +kernel)
theorem dL_arc_24 : decode cL_arc 24 = .ok (.ireturn, 1) := dk_172 (by decide +kernel)
theorem dL_arc_25 : decode cL_arc 25 = .ok (.iconst 0, 1) := dk_3 (by decide +kernel)
theorem dL_arc_26 : decode cL_arc 26 = .ok (.ireturn, 1) := dk_172 (by decide +kernel)
def wsH_arc : List Cond := .codeWith yL_arc cL_arc 7 (some .int) [(0, 14, 17, 13), (0, 14, 21, 32)] :: ([.classLink RL 13 "java/lang/IllegalArgumentException", .classLink RL 32 "java/lang/IllegalStateException"] ++ (wsV RL 70 RX11 yX11_arc wsU_arc))
theorem gdwsH_arc : wsH_arc.all goodWord = true := gdC (by decide +kernel) (gdA (by decide +kernel) (gdV (by decide +kernel) gdwsU_arc))
theorem gIwsH_arc : GoodIn wsH_arc (wsV RL 70 RX11 yX11_arc wsU_arc) := goodIn_sub (fun w h => List.mem_cons_of_mem _ (List.mem_append_right _ h)) (gdV (by decide +kernel) gdwsU_arc)
set_option maxHeartbeats 4000000 in
set_option maxRecDepth 100000 in
theorem H_arc (l : Launch) (hst : l.stackTraces = false) (dC : Nat → ClassId) (dI : Nat → Nat → Nat) (kX : Nat → ClassId) (kT : Nat → ClassId) (kM : Nat → ClassId) (kV : Nat → ClassId) (kC : Nat → ClassId) (kN : Nat → ClassId) (kJ : Nat → ClassId) (kL : Nat → ClassId) (kF : Nat → ClassId) (kO : Nat → ClassId) (kQ : Nat → ClassId) (kG : Nat → ClassId) (kw : ClassId) (q : Nat) (L : LT) (Fc Fs : Nat) (w : va_W) (p1 : Int32) (p2 : Int32) (p3 : Int32) (p4 : Int32) (o : Nat) (kR : ClassId) (g0 : Nat → Int64) (hw : ClsI kX kT kM kV kC kN kJ kL kF kO kQ kG kw q L Fc Fs w) (sz : Nat) : Met l yL_arc wsH_arc ({ frames := 7, cells := 13, slots := 1484, locals := 106 }) (va_Pc [.ref q, .int p1, .int p2, .int p3, .int p4, .ref o] (fun U => U.heap.size = sz ∧ va_P (dC, dI) vwCl ((o, .inl (kR, 1, .inr (.inl g0))) :: w) U.heap ∧ va_K (dC, dI) vwCl ((kR, .long) :: (tX kX ++ (tT kT ++ (tM kM ++ (tV kV ++ (tC kC ++ (tN kN ++ (tJ kJ ++ (tL kL ++ (tF kF ++ (tO kO ++ (tQ kQ ++ (tG kG ++ (tW kw)))))))))))))) U ∧ va_D (fun _ => True) ((o, .inl (kR, 1, .inr (.inl g0))) :: w) ∧ CE (va_A ((o, .inl (kR, 1, .inr (.inl g0))) :: w) sz) U U.heap ∧ NcE U)) (va_Qi (fun (r : Int32) (u : (LT × Nat × Nat × va_W × (Nat → Int64))) => ClsI kX kT kM kV kC kN kJ kL kF kO kQ kG kw q u.1 u.2.1 u.2.2.1 u.2.2.2.1 ∧ ((¬ (0 ≤ p1.toInt ∧ p1.toInt ≤ 11 ∧ 0 ≤ p2.toInt ∧ p2.toInt ≤ 11 ∧ p1.toInt ≠ p2.toInt ∧ 0 ≤ p3.toInt ∧ p3.toInt ≤ 1000 ∧ 0 ≤ p4.toInt ∧ p4.toInt ≤ 1000) ∧ u.1 = L ∧ r = 1) ∨ (((0 ≤ p1.toInt ∧ p1.toInt ≤ 11 ∧ 0 ≤ p2.toInt ∧ p2.toInt ≤ 11 ∧ p1.toInt ≠ p2.toInt ∧ 0 ≤ p3.toInt ∧ p3.toInt ≤ 1000 ∧ 0 ≤ p4.toInt ∧ p4.toInt ≤ 1000) ∧ L.2.1.1 = 40) ∧ u.1 = L ∧ r = 2) ∨ (((0 ≤ p1.toInt ∧ p1.toInt ≤ 11 ∧ 0 ≤ p2.toInt ∧ p2.toInt ≤ 11 ∧ p1.toInt ≠ p2.toInt ∧ 0 ≤ p3.toInt ∧ p3.toInt ≤ 1000 ∧ 0 ≤ p4.toInt ∧ p4.toInt ≤ 1000) ∧ L.2.1.1 < 40) ∧ u.1 = (L.1, ntAdd L.2.1 p1 p2 p3 p4, L.2.2) ∧ r = 0 ∧ ∃ x : Int32, u.2.2.2.2 0 = x.toInt64 ∧ x.toInt = L.2.1.1))) (fun u t => va_P (dC, dI) vwCl ((o, .inl (kR, 1, .inr (.inl u.2.2.2.2))) :: u.2.2.2.1) t.heap ∧ va_D (va_A ((o, .inl (kR, 1, .inr (.inl g0))) :: w) sz) ((o, .inl (kR, 1, .inr (.inl u.2.2.2.2))) :: u.2.2.2.1) ∧ t.heap.size + Fc ≤ sz + u.2.1 + 1000 ∧ nS sz t.heap + Fs ≤ u.2.2.1 + 9000) (va_A ((o, .inl (kR, 1, .inr (.inl g0))) :: w) sz)) 13 1484 (va_A ((o, .inl (kR, 1, .inr (.inl g0))) :: w) sz) := by
  refine ofWC (hh := [(0, 14, 17, 13), (0, 14, 21, 32)]) (cc := cL_arc) (maxL := 7) (ret := (some .int)) (by decide) rfl ?_
  intro p e s m args below meth c s₁ B hml hv
  obtain ⟨rfl, hsz, hP, hK, hD0, hCE, hNc⟩ := hv
  have hx := B.exec
  have hb := B.bytes
  have hr := B.returns
  have hts := atoms_spec (ws := wsH_arc) B.pre
  have hown : s.vm.findClass RL = some m.cls := findClass_of_methodNamed B.named
  have hlocks := B.notSynchronized
  have htb : c.exceptionTable.toList = tableOf [(0, 14, 17, 13), (0, 14, 21, 32)] := vx_table (x := yL_arc) B (hts _ List.mem_cons_self)
  subst hsz
  have hD := hD0.self (sz := s.heap.size)
  generalize hAe : va_A ((o, .inl (kR, 1, .inr (.inl g0))) :: w) s.heap.size = A at hD hCE ⊢
  have hA : ∀ q : Nat, s.heap.size ≤ q → A q := fun q h => by rw [← hAe]; exact Or.inr h
  have hl := lv_entry ([.ref q, .int p1, .int p2, .int p3, .int p4, .ref o]) (n := 7) (Nat.le_of_ble_eq_true rfl)
  rw [lg_entry_eq]
  generalize (lg_sl ([.ref q, .int p1, .int p2, .int p3, .int p4, .ref o]) ++ List.replicate (7 - (lg_sl ([.ref q, .int p1, .int p2, .int p3, .int p4, .ref o])).length) Slot.unset).toArray = ls at hl ⊢
  have hl : lv_has ls 7 [(0, .ref q), (1, .int p1), (2, .int p2), (3, .int p3), (4, .int p4), (5, .ref o)] := hl
  refine lv_aload hx hb dL_arc_0 (lv_at hl 5 rfl) ?_
  refine lv_iconst (v := 0) hx hb dL_arc_2 (by decide) ?_
  refine lv_aload_n hx hb dL_arc_3 rfl (lv_at hl 0 rfl) ?_
  refine lv_iload_n hx hb dL_arc_4 rfl (lv_at hl 1 rfl) ?_
  refine lv_iload_n hx hb dL_arc_5 rfl (lv_at hl 2 rfl) ?_
  refine lv_iload_n hx hb dL_arc_6 rfl (lv_at hl 3 rfl) ?_
  refine lv_iload hx hb dL_arc_7 (lv_at hl 4 rfl) ?_
  refine lawX_i (As := [.int p1, .int p2, .int p3, .int p4]) (rest := [.int 0, .ref o]) ⟨hx, hb, hml, hown, hts⟩ (U_arc l hst dC dI kX kT kM kV kC kN kJ kL kF kO kQ kG kw q L Fc Fs w p1 p2 p3 p4 hw s.heap.size) (cwV 4 hts gIwsH_arc rfl rfl rfl (by decide +kernel) ⟨Nat.le_of_ble_eq_true rfl, Nat.le_of_ble_eq_true rfl⟩) hw.recv (hK.mem (fun _ h => List.mem_cons_of_mem _ h)) hCE hA hP hD rfl hl.1 (lv_room (Nat.le_of_ble_eq_true rfl)) dL_arc_9 ⟨by decide +kernel, by decide +kernel⟩ (fun E ce q9 u H1 locs1 hp hPE hP hD hS hz hs hc1 hc2 hc3 => ?_) (fun r u H1 locs1 hp hP hD hS hz hs => ?_)
  · refine vx_widen (k := 13) (n := 1484) (by decide +kernel) (by decide +kernel) ?_
    rcases hPE with hu | hu
    · obtain ⟨hu, hcx⟩ := hu
      subst hu
      refine vx_catch (own := RL) (name := "java/lang/IllegalArgumentException") hown [] ⟨0, 14, 17, 13⟩ [⟨0, 14, 21, 32⟩] (by rw [htb]; rfl) (fun z hz => absurd hz List.not_mem_nil) (by decide) (by decide) (hts (.classLink RL 13 "java/lang/IllegalArgumentException") (by decide +kernel)) (va_Nw.use rfl (hCE.2.2.1.2.2.1 (.castable "java/lang/IllegalArgumentException" "java/lang/IllegalArgumentException") (by decide +kernel))) hc1 hc2 hc3 ?_
      refine lv_astore hx hb dL_arc_17 hl (by decide) rfl (fun ls (hl : lv_has ls _ ([(6, .ref q9), (0, .ref q), (1, .int p1), (2, .int p2), (3, .int p3), (4, .int p4), (5, .ref o)])) => ?_)
      refine lv_iconst (v := 1) hx hb dL_arc_19 (by decide) ?_
      exact W.iret (v := 1) hx hb hr (fun t ht hW => ⟨⟨1, (u.1, u.2.1, u.2.2.1, u.2.2.2, g0), rfl, ⟨hp.1, Or.inl ⟨hcx, hp.2, rfl⟩⟩, by rw [ht]; exact hP, hD, by rw [ht]; exact hz, by rw [ht]; exact hs⟩, hS.F ht⟩) hS.2.2 dL_arc_20
    · obtain ⟨hu, hcx⟩ := hu
      subst hu
      refine vx_catch (own := RL) (name := "java/lang/IllegalStateException") hown [⟨0, 14, 17, 13⟩] ⟨0, 14, 21, 32⟩ [] (by rw [htb]; rfl) (fun z hz => by rw [List.mem_singleton.mp hz]; exact Or.inr ⟨by decide, "java/lang/IllegalArgumentException", hts (.classLink RL 13 "java/lang/IllegalArgumentException") (by decide +kernel), hNc.2.1⟩) (by decide) (by decide) (hts (.classLink RL 32 "java/lang/IllegalStateException") (by decide +kernel)) (va_Nw.use rfl (hCE.2.2.1.2.1 (.castable "java/lang/IllegalStateException" "java/lang/IllegalStateException") (by decide +kernel))) hc1 hc2 hc3 ?_
      refine lv_astore hx hb dL_arc_21 hl (by decide) rfl (fun ls (hl : lv_has ls _ ([(6, .ref q9), (0, .ref q), (1, .int p1), (2, .int p2), (3, .int p3), (4, .int p4), (5, .ref o)])) => ?_)
      refine lv_iconst (v := 2) hx hb dL_arc_23 (by decide) ?_
      exact W.iret (v := 2) hx hb hr (fun t ht hW => ⟨⟨2, (u.1, u.2.1, u.2.2.1, u.2.2.2, g0), rfl, ⟨hp.1, Or.inr (Or.inl ⟨hcx, hp.2, rfl⟩)⟩, by rw [ht]; exact hP, hD, by rw [ht]; exact hz, by rw [ht]; exact hs⟩, hS.F ht⟩) hS.2.2 dL_arc_24
  · refine W.known (fun z1 z2 => ?_)
    have zS := hS.1
    refine W.tight (cells2 := min 13 (u.2.1 + 1000 - Fc)) (slots2 := min 1484 (u.2.2.1 + 9000 - Fs)) (by omega) (by omega) ?_
    refine lv_i2l (v := r.toInt64) hx hb dL_arc_12 rfl ?_
    refine va_last hx hb hK hP hD hS 0 0 rfl rfl (show ¬ ((0 : Int32) < 0 ∨ 1 ≤ (0 : Int32).toNatClampNeg) by decide) dL_arc_13 (fun H2 locs2 hP hD hS => ?_)
    refine lv_goto (tgt := 25) hx hb dL_arc_14 (by decide) ?_
    refine lv_iconst (v := 0) hx hb dL_arc_25 (by decide) ?_
    refine W.known (fun z3 z4 => ?_)
    refine W.widen (k := 13) (n := 1484) (Nat.min_le_left _ _) (Nat.min_le_left _ _) ?_
    have z5 : H2.size + Fc ≤ s.heap.size + u.2.1 + 1000 := by omega
    have z6 : nS s.heap.size H2 + Fs ≤ u.2.2.1 + 9000 := by omega
    exact W.iret (v := 0) hx hb hr (fun t ht hW => ⟨⟨0, (u.1, u.2.1, u.2.2.1, u.2.2.2, vp_updL g0 (0 : Int32).toNatClampNeg r.toInt64), rfl, ⟨hp.1, Or.inr (Or.inr ⟨hp.2.1, hp.2.2.1, rfl, r, updL_0 (g := g0) (x := r.toInt64), hp.2.2.2⟩)⟩, by rw [ht]; exact hP, hD, by rw [ht]; exact z5, by rw [ht]; exact z6⟩, hS.F ht⟩) hS.2.2 dL_arc_26
theorem dL_greatest_0 : decode cL_greatest 0 = .ok (.aload_n 3, 1) := dk_45 (by decide +kernel)
theorem dL_greatest_1 : decode cL_greatest 1 = .ok (.iconst 0, 1) := dk_3 (by decide +kernel)
theorem dL_greatest_2 : decode cL_greatest 2 = .ok (.aload_n 0, 1) := dk_42 (by decide +kernel)
theorem dL_greatest_3 : decode cL_greatest 3 = .ok (.iload_n 1, 1) := dk_27 (by decide +kernel)
theorem dL_greatest_4 : decode cL_greatest 4 = .ok (.iload_n 2, 1) := dk_28 (by decide +kernel)
theorem dL_greatest_5 : decode cL_greatest 5 = .ok (.invokevirtual 73, 3) := dk_182 (by decide +kernel)
theorem dL_greatest_8 : decode cL_greatest 8 = .ok (.i2l, 1) := dk_133 (by decide +kernel)
theorem dL_greatest_9 : decode cL_greatest 9 = .ok (.lastore, 1) := dk_80 (by decide +kernel)
theorem dL_greatest_10 : decode cL_greatest 10 = .ok (.goto 11, 3) := dk_167 (by decide +kernel)
theorem dL_greatest_13 : decode cL_greatest 13 = .ok (.astore 4, 2) := dk_58 (by decide +kernel)
theorem dL_greatest_15 : decode cL_greatest 15 = .ok (.iconst 1, 1) := dk_4 (by decide +kernel)
theorem dL_greatest_16 : decode cL_greatest 16 = .ok (.ireturn, 1) := dk_172 (by decide +kernel)
theorem dL_greatest_17 : decode cL_greatest 17 = .ok (.astore 4, 2) := dk_58 (by decide +kernel)
theorem dL_greatest_19 : decode cL_greatest 19 = .ok (.iconst 2, 1) := dk_5 (by decide +kernel)
theorem dL_greatest_20 : decode cL_greatest 20 = .ok (.ireturn, 1) := dk_172 (by decide +kernel)
theorem dL_greatest_21 : decode cL_greatest 21 = .ok (.iconst 0, 1) := dk_3 (by decide +kernel)
theorem dL_greatest_22 : decode cL_greatest 22 = .ok (.ireturn, 1) := dk_172 (by decide +kernel)
def wsH_greatest : List Cond := .codeWith yL_greatest cL_greatest 5 (some .int) [(0, 10, 13, 19), (0, 10, 17, 13)] :: ([.classLink RL 19 "java/lang/IndexOutOfBoundsException", .classLink RL 13 "java/lang/IllegalArgumentException"] ++ (wsV RL 73 RX11 yX11_greatest wsU_greatest))
theorem gdwsH_greatest : wsH_greatest.all goodWord = true := gdC (by decide +kernel) (gdA (by decide +kernel) (gdV (by decide +kernel) gdwsU_greatest))
theorem gIwsH_greatest : GoodIn wsH_greatest (wsV RL 73 RX11 yX11_greatest wsU_greatest) := goodIn_sub (fun w h => List.mem_cons_of_mem _ (List.mem_append_right _ h)) (gdV (by decide +kernel) gdwsU_greatest)
set_option maxHeartbeats 4000000 in
set_option maxRecDepth 100000 in
theorem H_greatest (l : Launch) (hst : l.stackTraces = false) (dC : Nat → ClassId) (dI : Nat → Nat → Nat) (kX : Nat → ClassId) (kT : Nat → ClassId) (kM : Nat → ClassId) (kV : Nat → ClassId) (kC : Nat → ClassId) (kN : Nat → ClassId) (kJ : Nat → ClassId) (kL : Nat → ClassId) (kF : Nat → ClassId) (kO : Nat → ClassId) (kQ : Nat → ClassId) (kG : Nat → ClassId) (kw : ClassId) (q : Nat) (L : LT) (Fc Fs : Nat) (w : va_W) (p1 : Int32) (p2 : Int32) (o : Nat) (kR : ClassId) (g0 : Nat → Int64) (hw : ClsI kX kT kM kV kC kN kJ kL kF kO kQ kG kw q L Fc Fs w) (hv0 : tVal L.2.1) (hr0 : tRm L.2.1) (sz : Nat) : Met l yL_greatest wsH_greatest ({ frames := 8, cells := 12, slots := 1478, locals := 124 }) (va_Pc [.ref q, .int p1, .int p2, .ref o] (fun U => U.heap.size = sz ∧ va_P (dC, dI) vwCl ((o, .inl (kR, 1, .inr (.inl g0))) :: w) U.heap ∧ va_K (dC, dI) vwCl ((kR, .long) :: (tX kX ++ (tT kT ++ (tM kM ++ (tV kV ++ (tC kC ++ (tN kN ++ (tJ kJ ++ (tL kL ++ (tF kF ++ (tO kO ++ (tQ kQ ++ (tG kG ++ (tW kw)))))))))))))) U ∧ va_D (fun _ => True) ((o, .inl (kR, 1, .inr (.inl g0))) :: w) ∧ CE (va_A ((o, .inl (kR, 1, .inr (.inl g0))) :: w) sz) U U.heap ∧ NcE U)) (va_Qi (fun (r : Int32) (u : (LT × Nat × Nat × va_W × (Nat → Int64))) => ClsI kX kT kM kV kC kN kJ kL kF kO kQ kG kw q u.1 u.2.1 u.2.2.1 u.2.2.2.1 ∧ ((¬ ((0 ≤ p1.toInt ∧ p1.toInt ≤ 11) ∧ 0 ≤ p2.toInt ∧ p2.toInt ≤ 11) ∧ u.1 = L ∧ r = 1) ∨ ((((0 ≤ p1.toInt ∧ p1.toInt ≤ 11) ∧ 0 ≤ p2.toInt ∧ p2.toInt ≤ 11) ∧ p1.toInt = p2.toInt) ∧ u.1 = L ∧ r = 2) ∨ ((((0 ≤ p1.toInt ∧ p1.toInt ≤ 11) ∧ 0 ≤ p2.toInt ∧ p2.toInt ≤ 11) ∧ ¬ p1.toInt = p2.toInt) ∧ u.1 = L ∧ r = 0 ∧ ∃ x : Int32, u.2.2.2.2 0 = x.toInt64 ∧ mxF L.2.1 p1.toInt.toNat p2.toInt.toNat x.toInt))) (fun u t => va_P (dC, dI) vwCl ((o, .inl (kR, 1, .inr (.inl u.2.2.2.2))) :: u.2.2.2.1) t.heap ∧ va_D (va_A ((o, .inl (kR, 1, .inr (.inl g0))) :: w) sz) ((o, .inl (kR, 1, .inr (.inl u.2.2.2.2))) :: u.2.2.2.1) ∧ t.heap.size + Fc ≤ sz + u.2.1 + 1000 ∧ nS sz t.heap + Fs ≤ u.2.2.1 + 9000) (va_A ((o, .inl (kR, 1, .inr (.inl g0))) :: w) sz)) 12 1478 (va_A ((o, .inl (kR, 1, .inr (.inl g0))) :: w) sz) := by
  refine ofWC (hh := [(0, 10, 13, 19), (0, 10, 17, 13)]) (cc := cL_greatest) (maxL := 5) (ret := (some .int)) (by decide) rfl ?_
  intro p e s m args below meth c s₁ B hml hv
  obtain ⟨rfl, hsz, hP, hK, hD0, hCE, hNc⟩ := hv
  have hx := B.exec
  have hb := B.bytes
  have hr := B.returns
  have hts := atoms_spec (ws := wsH_greatest) B.pre
  have hown : s.vm.findClass RL = some m.cls := findClass_of_methodNamed B.named
  have hlocks := B.notSynchronized
  have htb : c.exceptionTable.toList = tableOf [(0, 10, 13, 19), (0, 10, 17, 13)] := vx_table (x := yL_greatest) B (hts _ List.mem_cons_self)
  subst hsz
  have hD := hD0.self (sz := s.heap.size)
  generalize hAe : va_A ((o, .inl (kR, 1, .inr (.inl g0))) :: w) s.heap.size = A at hD hCE ⊢
  have hA : ∀ q : Nat, s.heap.size ≤ q → A q := fun q h => by rw [← hAe]; exact Or.inr h
  have hl := lv_entry ([.ref q, .int p1, .int p2, .ref o]) (n := 5) (Nat.le_of_ble_eq_true rfl)
  rw [lg_entry_eq]
  generalize (lg_sl ([.ref q, .int p1, .int p2, .ref o]) ++ List.replicate (5 - (lg_sl ([.ref q, .int p1, .int p2, .ref o])).length) Slot.unset).toArray = ls at hl ⊢
  have hl : lv_has ls 5 [(0, .ref q), (1, .int p1), (2, .int p2), (3, .ref o)] := hl
  refine lv_aload_n hx hb dL_greatest_0 rfl (lv_at hl 3 rfl) ?_
  refine lv_iconst (v := 0) hx hb dL_greatest_1 (by decide) ?_
  refine lv_aload_n hx hb dL_greatest_2 rfl (lv_at hl 0 rfl) ?_
  refine lv_iload_n hx hb dL_greatest_3 rfl (lv_at hl 1 rfl) ?_
  refine lv_iload_n hx hb dL_greatest_4 rfl (lv_at hl 2 rfl) ?_
  refine lawX_i (As := [.int p1, .int p2]) (rest := [.int 0, .ref o]) ⟨hx, hb, hml, hown, hts⟩ (U_greatest l hst dC dI kX kT kM kV kC kN kJ kL kF kO kQ kG kw q L Fc Fs w p1 p2 hw hv0 hr0 s.heap.size) (cwV 2 hts gIwsH_greatest rfl rfl rfl (by decide +kernel) ⟨Nat.le_of_ble_eq_true rfl, Nat.le_of_ble_eq_true rfl⟩) hw.recv (hK.mem (fun _ h => List.mem_cons_of_mem _ h)) hCE hA hP hD rfl hl.1 (lv_room (Nat.le_of_ble_eq_true rfl)) dL_greatest_5 ⟨by decide +kernel, by decide +kernel⟩ (fun E ce q9 u H1 locs1 hp hPE hP hD hS hz hs hc1 hc2 hc3 => ?_) (fun r u H1 locs1 hp hP hD hS hz hs => ?_)
  · refine vx_widen (k := 12) (n := 1478) (by decide +kernel) (by decide +kernel) ?_
    rcases hPE with hu | hu
    · obtain ⟨hu, hcx⟩ := hu
      subst hu
      refine vx_catch (own := RL) (name := "java/lang/IndexOutOfBoundsException") hown [] ⟨0, 10, 13, 19⟩ [⟨0, 10, 17, 13⟩] (by rw [htb]; rfl) (fun z hz => absurd hz List.not_mem_nil) (by decide) (by decide) (hts (.classLink RL 19 "java/lang/IndexOutOfBoundsException") (by decide +kernel)) (va_Nw.use rfl (hCE.2.2.1.2.2.2.1 (.castable "java/lang/IndexOutOfBoundsException" "java/lang/IndexOutOfBoundsException") (by decide +kernel))) hc1 hc2 hc3 ?_
      refine lv_astore hx hb dL_greatest_13 hl (by decide) rfl (fun ls (hl : lv_has ls _ ([(4, .ref q9), (0, .ref q), (1, .int p1), (2, .int p2), (3, .ref o)])) => ?_)
      refine lv_iconst (v := 1) hx hb dL_greatest_15 (by decide) ?_
      exact W.iret (v := 1) hx hb hr (fun t ht hW => ⟨⟨1, (u.1, u.2.1, u.2.2.1, u.2.2.2, g0), rfl, ⟨hp.1, Or.inl ⟨hcx, hp.2, rfl⟩⟩, by rw [ht]; exact hP, hD, by rw [ht]; exact hz, by rw [ht]; exact hs⟩, hS.F ht⟩) hS.2.2 dL_greatest_16
    · obtain ⟨hu, hcx⟩ := hu
      subst hu
      refine vx_catch (own := RL) (name := "java/lang/IllegalArgumentException") hown [⟨0, 10, 13, 19⟩] ⟨0, 10, 17, 13⟩ [] (by rw [htb]; rfl) (fun z hz => by rw [List.mem_singleton.mp hz]; exact Or.inr ⟨by decide, "java/lang/IndexOutOfBoundsException", hts (.classLink RL 19 "java/lang/IndexOutOfBoundsException") (by decide +kernel), hNc.2.2⟩) (by decide) (by decide) (hts (.classLink RL 13 "java/lang/IllegalArgumentException") (by decide +kernel)) (va_Nw.use rfl (hCE.2.2.1.2.2.1 (.castable "java/lang/IllegalArgumentException" "java/lang/IllegalArgumentException") (by decide +kernel))) hc1 hc2 hc3 ?_
      refine lv_astore hx hb dL_greatest_17 hl (by decide) rfl (fun ls (hl : lv_has ls _ ([(4, .ref q9), (0, .ref q), (1, .int p1), (2, .int p2), (3, .ref o)])) => ?_)
      refine lv_iconst (v := 2) hx hb dL_greatest_19 (by decide) ?_
      exact W.iret (v := 2) hx hb hr (fun t ht hW => ⟨⟨2, (u.1, u.2.1, u.2.2.1, u.2.2.2, g0), rfl, ⟨hp.1, Or.inr (Or.inl ⟨hcx, hp.2, rfl⟩)⟩, by rw [ht]; exact hP, hD, by rw [ht]; exact hz, by rw [ht]; exact hs⟩, hS.F ht⟩) hS.2.2 dL_greatest_20
  · refine W.known (fun z1 z2 => ?_)
    have zS := hS.1
    refine W.tight (cells2 := min 12 (u.2.1 + 1000 - Fc)) (slots2 := min 1478 (u.2.2.1 + 9000 - Fs)) (by omega) (by omega) ?_
    refine lv_i2l (v := r.toInt64) hx hb dL_greatest_8 rfl ?_
    refine va_last hx hb hK hP hD hS 0 0 rfl rfl (show ¬ ((0 : Int32) < 0 ∨ 1 ≤ (0 : Int32).toNatClampNeg) by decide) dL_greatest_9 (fun H2 locs2 hP hD hS => ?_)
    refine lv_goto (tgt := 21) hx hb dL_greatest_10 (by decide) ?_
    refine lv_iconst (v := 0) hx hb dL_greatest_21 (by decide) ?_
    refine W.known (fun z3 z4 => ?_)
    refine W.widen (k := 12) (n := 1478) (Nat.min_le_left _ _) (Nat.min_le_left _ _) ?_
    have z5 : H2.size + Fc ≤ s.heap.size + u.2.1 + 1000 := by omega
    have z6 : nS s.heap.size H2 + Fs ≤ u.2.2.1 + 9000 := by omega
    exact W.iret (v := 0) hx hb hr (fun t ht hW => ⟨⟨0, (u.1, u.2.1, u.2.2.1, u.2.2.2, vp_updL g0 (0 : Int32).toNatClampNeg r.toInt64), rfl, ⟨hp.1, Or.inr (Or.inr ⟨hp.2.1, hp.2.2.1, rfl, r, updL_0 (g := g0) (x := r.toInt64), hp.2.2.2⟩)⟩, by rw [ht]; exact hP, hD, by rw [ht]; exact z5, by rw [ht]; exact z6⟩, hS.F ht⟩) hS.2.2 dL_greatest_22
theorem dL_cut_0 : decode cL_cut 0 = .ok (.aload_n 3, 1) := dk_45 (by decide +kernel)
theorem dL_cut_1 : decode cL_cut 1 = .ok (.iconst 0, 1) := dk_3 (by decide +kernel)
theorem dL_cut_2 : decode cL_cut 2 = .ok (.aload_n 0, 1) := dk_42 (by decide +kernel)
theorem dL_cut_3 : decode cL_cut 3 = .ok (.iload_n 1, 1) := dk_27 (by decide +kernel)
theorem dL_cut_4 : decode cL_cut 4 = .ok (.iload_n 2, 1) := dk_28 (by decide +kernel)
theorem dL_cut_5 : decode cL_cut 5 = .ok (.invokevirtual 76, 3) := dk_182 (by decide +kernel)
theorem dL_cut_8 : decode cL_cut 8 = .ok (.i2l, 1) := dk_133 (by decide +kernel)
theorem dL_cut_9 : decode cL_cut 9 = .ok (.lastore, 1) := dk_80 (by decide +kernel)
theorem dL_cut_10 : decode cL_cut 10 = .ok (.goto 11, 3) := dk_167 (by decide +kernel)
theorem dL_cut_13 : decode cL_cut 13 = .ok (.astore 4, 2) := dk_58 (by decide +kernel)
theorem dL_cut_15 : decode cL_cut 15 = .ok (.iconst 1, 1) := dk_4 (by decide +kernel)
theorem dL_cut_16 : decode cL_cut 16 = .ok (.ireturn, 1) := dk_172 (by decide +kernel)
theorem dL_cut_17 : decode cL_cut 17 = .ok (.astore 4, 2) := dk_58 (by decide +kernel)
theorem dL_cut_19 : decode cL_cut 19 = .ok (.iconst 2, 1) := dk_5 (by decide +kernel)
theorem dL_cut_20 : decode cL_cut 20 = .ok (.ireturn, 1) := dk_172 (by decide +kernel)
theorem dL_cut_21 : decode cL_cut 21 = .ok (.iconst 0, 1) := dk_3 (by decide +kernel)
theorem dL_cut_22 : decode cL_cut 22 = .ok (.ireturn, 1) := dk_172 (by decide +kernel)
def wsH_cut : List Cond := .codeWith yL_cut cL_cut 5 (some .int) [(0, 10, 13, 19), (0, 10, 17, 13)] :: ([.classLink RL 19 "java/lang/IndexOutOfBoundsException", .classLink RL 13 "java/lang/IllegalArgumentException"] ++ (wsV RL 76 RX11 yX11_cut wsU_cut))
theorem gdwsH_cut : wsH_cut.all goodWord = true := gdC (by decide +kernel) (gdA (by decide +kernel) (gdV (by decide +kernel) gdwsU_cut))
theorem gIwsH_cut : GoodIn wsH_cut (wsV RL 76 RX11 yX11_cut wsU_cut) := goodIn_sub (fun w h => List.mem_cons_of_mem _ (List.mem_append_right _ h)) (gdV (by decide +kernel) gdwsU_cut)
set_option maxHeartbeats 4000000 in
set_option maxRecDepth 100000 in
theorem H_cut (l : Launch) (hst : l.stackTraces = false) (dC : Nat → ClassId) (dI : Nat → Nat → Nat) (kX : Nat → ClassId) (kT : Nat → ClassId) (kM : Nat → ClassId) (kV : Nat → ClassId) (kC : Nat → ClassId) (kN : Nat → ClassId) (kJ : Nat → ClassId) (kL : Nat → ClassId) (kF : Nat → ClassId) (kO : Nat → ClassId) (kQ : Nat → ClassId) (kG : Nat → ClassId) (kw : ClassId) (q : Nat) (L : LT) (Fc Fs : Nat) (w : va_W) (p1 : Int32) (p2 : Int32) (o : Nat) (kR : ClassId) (g0 : Nat → Int64) (hw : ClsI kX kT kM kV kC kN kJ kL kF kO kQ kG kw q L Fc Fs w) (hv0 : tVal L.2.1) (hr0 : tRm L.2.1) (sz : Nat) : Met l yL_cut wsH_cut ({ frames := 8, cells := 12, slots := 1478, locals := 124 }) (va_Pc [.ref q, .int p1, .int p2, .ref o] (fun U => U.heap.size = sz ∧ va_P (dC, dI) vwCl ((o, .inl (kR, 1, .inr (.inl g0))) :: w) U.heap ∧ va_K (dC, dI) vwCl ((kR, .long) :: (tX kX ++ (tT kT ++ (tM kM ++ (tV kV ++ (tC kC ++ (tN kN ++ (tJ kJ ++ (tL kL ++ (tF kF ++ (tO kO ++ (tQ kQ ++ (tG kG ++ (tW kw)))))))))))))) U ∧ va_D (fun _ => True) ((o, .inl (kR, 1, .inr (.inl g0))) :: w) ∧ CE (va_A ((o, .inl (kR, 1, .inr (.inl g0))) :: w) sz) U U.heap ∧ NcE U)) (va_Qi (fun (r : Int32) (u : (LT × Nat × Nat × va_W × (Nat → Int64))) => ClsI kX kT kM kV kC kN kJ kL kF kO kQ kG kw q u.1 u.2.1 u.2.2.1 u.2.2.2.1 ∧ ((¬ ((0 ≤ p1.toInt ∧ p1.toInt ≤ 11) ∧ 0 ≤ p2.toInt ∧ p2.toInt ≤ 11) ∧ u.1 = L ∧ r = 1) ∨ ((((0 ≤ p1.toInt ∧ p1.toInt ≤ 11) ∧ 0 ≤ p2.toInt ∧ p2.toInt ≤ 11) ∧ p1.toInt = p2.toInt) ∧ u.1 = L ∧ r = 2) ∨ ((((0 ≤ p1.toInt ∧ p1.toInt ≤ 11) ∧ 0 ≤ p2.toInt ∧ p2.toInt ≤ 11) ∧ ¬ p1.toInt = p2.toInt) ∧ u.1 = L ∧ r = 0 ∧ ∃ x : Int32, u.2.2.2.2 0 = x.toInt64 ∧ mxC L.2.1 p1.toInt.toNat p2.toInt.toNat x))) (fun u t => va_P (dC, dI) vwCl ((o, .inl (kR, 1, .inr (.inl u.2.2.2.2))) :: u.2.2.2.1) t.heap ∧ va_D (va_A ((o, .inl (kR, 1, .inr (.inl g0))) :: w) sz) ((o, .inl (kR, 1, .inr (.inl u.2.2.2.2))) :: u.2.2.2.1) ∧ t.heap.size + Fc ≤ sz + u.2.1 + 1000 ∧ nS sz t.heap + Fs ≤ u.2.2.1 + 9000) (va_A ((o, .inl (kR, 1, .inr (.inl g0))) :: w) sz)) 12 1478 (va_A ((o, .inl (kR, 1, .inr (.inl g0))) :: w) sz) := by
  refine ofWC (hh := [(0, 10, 13, 19), (0, 10, 17, 13)]) (cc := cL_cut) (maxL := 5) (ret := (some .int)) (by decide) rfl ?_
  intro p e s m args below meth c s₁ B hml hv
  obtain ⟨rfl, hsz, hP, hK, hD0, hCE, hNc⟩ := hv
  have hx := B.exec
  have hb := B.bytes
  have hr := B.returns
  have hts := atoms_spec (ws := wsH_cut) B.pre
  have hown : s.vm.findClass RL = some m.cls := findClass_of_methodNamed B.named
  have hlocks := B.notSynchronized
  have htb : c.exceptionTable.toList = tableOf [(0, 10, 13, 19), (0, 10, 17, 13)] := vx_table (x := yL_cut) B (hts _ List.mem_cons_self)
  subst hsz
  have hD := hD0.self (sz := s.heap.size)
  generalize hAe : va_A ((o, .inl (kR, 1, .inr (.inl g0))) :: w) s.heap.size = A at hD hCE ⊢
  have hA : ∀ q : Nat, s.heap.size ≤ q → A q := fun q h => by rw [← hAe]; exact Or.inr h
  have hl := lv_entry ([.ref q, .int p1, .int p2, .ref o]) (n := 5) (Nat.le_of_ble_eq_true rfl)
  rw [lg_entry_eq]
  generalize (lg_sl ([.ref q, .int p1, .int p2, .ref o]) ++ List.replicate (5 - (lg_sl ([.ref q, .int p1, .int p2, .ref o])).length) Slot.unset).toArray = ls at hl ⊢
  have hl : lv_has ls 5 [(0, .ref q), (1, .int p1), (2, .int p2), (3, .ref o)] := hl
  refine lv_aload_n hx hb dL_cut_0 rfl (lv_at hl 3 rfl) ?_
  refine lv_iconst (v := 0) hx hb dL_cut_1 (by decide) ?_
  refine lv_aload_n hx hb dL_cut_2 rfl (lv_at hl 0 rfl) ?_
  refine lv_iload_n hx hb dL_cut_3 rfl (lv_at hl 1 rfl) ?_
  refine lv_iload_n hx hb dL_cut_4 rfl (lv_at hl 2 rfl) ?_
  refine lawX_i (As := [.int p1, .int p2]) (rest := [.int 0, .ref o]) ⟨hx, hb, hml, hown, hts⟩ (U_cut l hst dC dI kX kT kM kV kC kN kJ kL kF kO kQ kG kw q L Fc Fs w p1 p2 hw hv0 hr0 s.heap.size) (cwV 2 hts gIwsH_cut rfl rfl rfl (by decide +kernel) ⟨Nat.le_of_ble_eq_true rfl, Nat.le_of_ble_eq_true rfl⟩) hw.recv (hK.mem (fun _ h => List.mem_cons_of_mem _ h)) hCE hA hP hD rfl hl.1 (lv_room (Nat.le_of_ble_eq_true rfl)) dL_cut_5 ⟨by decide +kernel, by decide +kernel⟩ (fun E ce q9 u H1 locs1 hp hPE hP hD hS hz hs hc1 hc2 hc3 => ?_) (fun r u H1 locs1 hp hP hD hS hz hs => ?_)
  · refine vx_widen (k := 12) (n := 1478) (by decide +kernel) (by decide +kernel) ?_
    rcases hPE with hu | hu
    · obtain ⟨hu, hcx⟩ := hu
      subst hu
      refine vx_catch (own := RL) (name := "java/lang/IndexOutOfBoundsException") hown [] ⟨0, 10, 13, 19⟩ [⟨0, 10, 17, 13⟩] (by rw [htb]; rfl) (fun z hz => absurd hz List.not_mem_nil) (by decide) (by decide) (hts (.classLink RL 19 "java/lang/IndexOutOfBoundsException") (by decide +kernel)) (va_Nw.use rfl (hCE.2.2.1.2.2.2.1 (.castable "java/lang/IndexOutOfBoundsException" "java/lang/IndexOutOfBoundsException") (by decide +kernel))) hc1 hc2 hc3 ?_
      refine lv_astore hx hb dL_cut_13 hl (by decide) rfl (fun ls (hl : lv_has ls _ ([(4, .ref q9), (0, .ref q), (1, .int p1), (2, .int p2), (3, .ref o)])) => ?_)
      refine lv_iconst (v := 1) hx hb dL_cut_15 (by decide) ?_
      exact W.iret (v := 1) hx hb hr (fun t ht hW => ⟨⟨1, (u.1, u.2.1, u.2.2.1, u.2.2.2, g0), rfl, ⟨hp.1, Or.inl ⟨hcx, hp.2, rfl⟩⟩, by rw [ht]; exact hP, hD, by rw [ht]; exact hz, by rw [ht]; exact hs⟩, hS.F ht⟩) hS.2.2 dL_cut_16
    · obtain ⟨hu, hcx⟩ := hu
      subst hu
      refine vx_catch (own := RL) (name := "java/lang/IllegalArgumentException") hown [⟨0, 10, 13, 19⟩] ⟨0, 10, 17, 13⟩ [] (by rw [htb]; rfl) (fun z hz => by rw [List.mem_singleton.mp hz]; exact Or.inr ⟨by decide, "java/lang/IndexOutOfBoundsException", hts (.classLink RL 19 "java/lang/IndexOutOfBoundsException") (by decide +kernel), hNc.2.2⟩) (by decide) (by decide) (hts (.classLink RL 13 "java/lang/IllegalArgumentException") (by decide +kernel)) (va_Nw.use rfl (hCE.2.2.1.2.2.1 (.castable "java/lang/IllegalArgumentException" "java/lang/IllegalArgumentException") (by decide +kernel))) hc1 hc2 hc3 ?_
      refine lv_astore hx hb dL_cut_17 hl (by decide) rfl (fun ls (hl : lv_has ls _ ([(4, .ref q9), (0, .ref q), (1, .int p1), (2, .int p2), (3, .ref o)])) => ?_)
      refine lv_iconst (v := 2) hx hb dL_cut_19 (by decide) ?_
      exact W.iret (v := 2) hx hb hr (fun t ht hW => ⟨⟨2, (u.1, u.2.1, u.2.2.1, u.2.2.2, g0), rfl, ⟨hp.1, Or.inr (Or.inl ⟨hcx, hp.2, rfl⟩)⟩, by rw [ht]; exact hP, hD, by rw [ht]; exact hz, by rw [ht]; exact hs⟩, hS.F ht⟩) hS.2.2 dL_cut_20
  · refine W.known (fun z1 z2 => ?_)
    have zS := hS.1
    refine W.tight (cells2 := min 12 (u.2.1 + 1000 - Fc)) (slots2 := min 1478 (u.2.2.1 + 9000 - Fs)) (by omega) (by omega) ?_
    refine lv_i2l (v := r.toInt64) hx hb dL_cut_8 rfl ?_
    refine va_last hx hb hK hP hD hS 0 0 rfl rfl (show ¬ ((0 : Int32) < 0 ∨ 1 ≤ (0 : Int32).toNatClampNeg) by decide) dL_cut_9 (fun H2 locs2 hP hD hS => ?_)
    refine lv_goto (tgt := 21) hx hb dL_cut_10 (by decide) ?_
    refine lv_iconst (v := 0) hx hb dL_cut_21 (by decide) ?_
    refine W.known (fun z3 z4 => ?_)
    refine W.widen (k := 12) (n := 1478) (Nat.min_le_left _ _) (Nat.min_le_left _ _) ?_
    have z5 : H2.size + Fc ≤ s.heap.size + u.2.1 + 1000 := by omega
    have z6 : nS s.heap.size H2 + Fs ≤ u.2.2.1 + 9000 := by omega
    exact W.iret (v := 0) hx hb hr (fun t ht hW => ⟨⟨0, (u.1, u.2.1, u.2.2.1, u.2.2.2, vp_updL g0 (0 : Int32).toNatClampNeg r.toInt64), rfl, ⟨hp.1, Or.inr (Or.inr ⟨hp.2.1, hp.2.2.1, rfl, r, updL_0 (g := g0) (x := r.toInt64), hp.2.2.2⟩)⟩, by rw [ht]; exact hP, hD, by rw [ht]; exact z5, by rw [ht]; exact z6⟩, hS.F ht⟩) hS.2.2 dL_cut_22
theorem dL_cheapest_0 : decode cL_cheapest 0 = .ok (.aload 4, 2) := dk_25 (by decide +kernel)
theorem dL_cheapest_2 : decode cL_cheapest 2 = .ok (.iconst 0, 1) := dk_3 (by decide +kernel)
theorem dL_cheapest_3 : decode cL_cheapest 3 = .ok (.aload_n 0, 1) := dk_42 (by decide +kernel)
theorem dL_cheapest_4 : decode cL_cheapest 4 = .ok (.iload_n 1, 1) := dk_27 (by decide +kernel)
theorem dL_cheapest_5 : decode cL_cheapest 5 = .ok (.iload_n 2, 1) := dk_28 (by decide +kernel)
theorem dL_cheapest_6 : decode cL_cheapest 6 = .ok (.iload_n 3, 1) := dk_29 (by decide +kernel)
theorem dL_cheapest_7 : decode cL_cheapest 7 = .ok (.invokevirtual 79, 3) := dk_182 (by decide +kernel)
theorem dL_cheapest_10 : decode cL_cheapest 10 = .ok (.i2l, 1) := dk_133 (by decide +kernel)
theorem dL_cheapest_11 : decode cL_cheapest 11 = .ok (.lastore, 1) := dk_80 (by decide +kernel)
theorem dL_cheapest_12 : decode cL_cheapest 12 = .ok (.goto 11, 3) := dk_167 (by decide +kernel)
theorem dL_cheapest_15 : decode cL_cheapest 15 = .ok (.astore 5, 2) := dk_58 (by decide +kernel)
theorem dL_cheapest_17 : decode cL_cheapest 17 = .ok (.iconst 1, 1) := dk_4 (by decide +kernel)
theorem dL_cheapest_18 : decode cL_cheapest 18 = .ok (.ireturn, 1) := dk_172 (by decide +kernel)
theorem dL_cheapest_19 : decode cL_cheapest 19 = .ok (.astore 5, 2) := dk_58 (by decide +kernel)
theorem dL_cheapest_21 : decode cL_cheapest 21 = .ok (.iconst 2, 1) := dk_5 (by decide +kernel)
theorem dL_cheapest_22 : decode cL_cheapest 22 = .ok (.ireturn, 1) := dk_172 (by decide +kernel)
theorem dL_cheapest_23 : decode cL_cheapest 23 = .ok (.iconst 0, 1) := dk_3 (by decide +kernel)
theorem dL_cheapest_24 : decode cL_cheapest 24 = .ok (.ireturn, 1) := dk_172 (by decide +kernel)
def wsH_cheapest : List Cond := .codeWith yL_cheapest cL_cheapest 6 (some .int) [(0, 12, 15, 19), (0, 12, 19, 13)] :: ([.classLink RL 19 "java/lang/IndexOutOfBoundsException", .classLink RL 13 "java/lang/IllegalArgumentException"] ++ (wsV RL 79 RX11 yX11_cheapest wsU_cheapest))
theorem gdwsH_cheapest : wsH_cheapest.all goodWord = true := gdC (by decide +kernel) (gdA (by decide +kernel) (gdV (by decide +kernel) gdwsU_cheapest))
theorem gIwsH_cheapest : GoodIn wsH_cheapest (wsV RL 79 RX11 yX11_cheapest wsU_cheapest) := goodIn_sub (fun w h => List.mem_cons_of_mem _ (List.mem_append_right _ h)) (gdV (by decide +kernel) gdwsU_cheapest)
set_option maxHeartbeats 4000000 in
set_option maxRecDepth 100000 in
theorem H_cheapest (l : Launch) (hst : l.stackTraces = false) (dC : Nat → ClassId) (dI : Nat → Nat → Nat) (kX : Nat → ClassId) (kT : Nat → ClassId) (kM : Nat → ClassId) (kV : Nat → ClassId) (kC : Nat → ClassId) (kN : Nat → ClassId) (kJ : Nat → ClassId) (kL : Nat → ClassId) (kF : Nat → ClassId) (kO : Nat → ClassId) (kQ : Nat → ClassId) (kG : Nat → ClassId) (kw : ClassId) (q : Nat) (L : LT) (Fc Fs : Nat) (w : va_W) (p1 : Int32) (p2 : Int32) (p3 : Int32) (o : Nat) (kR : ClassId) (g0 : Nat → Int64) (hw : ClsI kX kT kM kV kC kN kJ kL kF kO kQ kG kw q L Fc Fs w) (ha0 : ArO L.2.1.2.1 L.2.1.2.2.1 L.2.1.2.2.2.1 L.2.1.2.2.2.2 L.2.1.1.toNat) (sz : Nat) : Met l yL_cheapest wsH_cheapest ({ frames := 8, cells := 12, slots := 1478, locals := 125 }) (va_Pc [.ref q, .int p1, .int p2, .int p3, .ref o] (fun U => U.heap.size = sz ∧ va_P (dC, dI) vwCl ((o, .inl (kR, 1, .inr (.inl g0))) :: w) U.heap ∧ va_K (dC, dI) vwCl ((kR, .long) :: (tX kX ++ (tT kT ++ (tM kM ++ (tV kV ++ (tC kC ++ (tN kN ++ (tJ kJ ++ (tL kL ++ (tF kF ++ (tO kO ++ (tQ kQ ++ (tG kG ++ (tW kw)))))))))))))) U ∧ va_D (fun _ => True) ((o, .inl (kR, 1, .inr (.inl g0))) :: w) ∧ CE (va_A ((o, .inl (kR, 1, .inr (.inl g0))) :: w) sz) U U.heap ∧ NcE U)) (va_Qi (fun (r : Int32) (u : (LT × Nat × Nat × va_W × (Nat → Int64))) => ClsI kX kT kM kV kC kN kJ kL kF kO kQ kG kw q u.1 u.2.1 u.2.2.1 u.2.2.2.1 ∧ ((¬ ((0 ≤ p1.toInt ∧ p1.toInt ≤ 11) ∧ 0 ≤ p2.toInt ∧ p2.toInt ≤ 11) ∧ u.1 = L ∧ r = 1) ∨ ((((0 ≤ p1.toInt ∧ p1.toInt ≤ 11) ∧ 0 ≤ p2.toInt ∧ p2.toInt ≤ 11) ∧ p1.toInt = p2.toInt) ∧ u.1 = L ∧ r = 2) ∨ ((((0 ≤ p1.toInt ∧ p1.toInt ≤ 11) ∧ 0 ≤ p2.toInt ∧ p2.toInt ≤ 11) ∧ ¬ p1.toInt = p2.toInt) ∧ u.1 = L ∧ r = 0 ∧ ∃ x : Int32, u.2.2.2.2 0 = x.toInt64 ∧ mnC L.2.1 p1.toInt.toNat p2.toInt.toNat p3.toInt x.toInt))) (fun u t => va_P (dC, dI) vwCl ((o, .inl (kR, 1, .inr (.inl u.2.2.2.2))) :: u.2.2.2.1) t.heap ∧ va_D (va_A ((o, .inl (kR, 1, .inr (.inl g0))) :: w) sz) ((o, .inl (kR, 1, .inr (.inl u.2.2.2.2))) :: u.2.2.2.1) ∧ t.heap.size + Fc ≤ sz + u.2.1 + 1000 ∧ nS sz t.heap + Fs ≤ u.2.2.1 + 9000) (va_A ((o, .inl (kR, 1, .inr (.inl g0))) :: w) sz)) 12 1478 (va_A ((o, .inl (kR, 1, .inr (.inl g0))) :: w) sz) := by
  refine ofWC (hh := [(0, 12, 15, 19), (0, 12, 19, 13)]) (cc := cL_cheapest) (maxL := 6) (ret := (some .int)) (by decide) rfl ?_
  intro p e s m args below meth c s₁ B hml hv
  obtain ⟨rfl, hsz, hP, hK, hD0, hCE, hNc⟩ := hv
  have hx := B.exec
  have hb := B.bytes
  have hr := B.returns
  have hts := atoms_spec (ws := wsH_cheapest) B.pre
  have hown : s.vm.findClass RL = some m.cls := findClass_of_methodNamed B.named
  have hlocks := B.notSynchronized
  have htb : c.exceptionTable.toList = tableOf [(0, 12, 15, 19), (0, 12, 19, 13)] := vx_table (x := yL_cheapest) B (hts _ List.mem_cons_self)
  subst hsz
  have hD := hD0.self (sz := s.heap.size)
  generalize hAe : va_A ((o, .inl (kR, 1, .inr (.inl g0))) :: w) s.heap.size = A at hD hCE ⊢
  have hA : ∀ q : Nat, s.heap.size ≤ q → A q := fun q h => by rw [← hAe]; exact Or.inr h
  have hl := lv_entry ([.ref q, .int p1, .int p2, .int p3, .ref o]) (n := 6) (Nat.le_of_ble_eq_true rfl)
  rw [lg_entry_eq]
  generalize (lg_sl ([.ref q, .int p1, .int p2, .int p3, .ref o]) ++ List.replicate (6 - (lg_sl ([.ref q, .int p1, .int p2, .int p3, .ref o])).length) Slot.unset).toArray = ls at hl ⊢
  have hl : lv_has ls 6 [(0, .ref q), (1, .int p1), (2, .int p2), (3, .int p3), (4, .ref o)] := hl
  refine lv_aload hx hb dL_cheapest_0 (lv_at hl 4 rfl) ?_
  refine lv_iconst (v := 0) hx hb dL_cheapest_2 (by decide) ?_
  refine lv_aload_n hx hb dL_cheapest_3 rfl (lv_at hl 0 rfl) ?_
  refine lv_iload_n hx hb dL_cheapest_4 rfl (lv_at hl 1 rfl) ?_
  refine lv_iload_n hx hb dL_cheapest_5 rfl (lv_at hl 2 rfl) ?_
  refine lv_iload_n hx hb dL_cheapest_6 rfl (lv_at hl 3 rfl) ?_
  refine lawX_i (As := [.int p1, .int p2, .int p3]) (rest := [.int 0, .ref o]) ⟨hx, hb, hml, hown, hts⟩ (U_cheapest l hst dC dI kX kT kM kV kC kN kJ kL kF kO kQ kG kw q L Fc Fs w p1 p2 p3 hw ha0 s.heap.size) (cwV 3 hts gIwsH_cheapest rfl rfl rfl (by decide +kernel) ⟨Nat.le_of_ble_eq_true rfl, Nat.le_of_ble_eq_true rfl⟩) hw.recv (hK.mem (fun _ h => List.mem_cons_of_mem _ h)) hCE hA hP hD rfl hl.1 (lv_room (Nat.le_of_ble_eq_true rfl)) dL_cheapest_7 ⟨by decide +kernel, by decide +kernel⟩ (fun E ce q9 u H1 locs1 hp hPE hP hD hS hz hs hc1 hc2 hc3 => ?_) (fun r u H1 locs1 hp hP hD hS hz hs => ?_)
  · refine vx_widen (k := 12) (n := 1478) (by decide +kernel) (by decide +kernel) ?_
    rcases hPE with hu | hu
    · obtain ⟨hu, hcx⟩ := hu
      subst hu
      refine vx_catch (own := RL) (name := "java/lang/IndexOutOfBoundsException") hown [] ⟨0, 12, 15, 19⟩ [⟨0, 12, 19, 13⟩] (by rw [htb]; rfl) (fun z hz => absurd hz List.not_mem_nil) (by decide) (by decide) (hts (.classLink RL 19 "java/lang/IndexOutOfBoundsException") (by decide +kernel)) (va_Nw.use rfl (hCE.2.2.1.2.2.2.1 (.castable "java/lang/IndexOutOfBoundsException" "java/lang/IndexOutOfBoundsException") (by decide +kernel))) hc1 hc2 hc3 ?_
      refine lv_astore hx hb dL_cheapest_15 hl (by decide) rfl (fun ls (hl : lv_has ls _ ([(5, .ref q9), (0, .ref q), (1, .int p1), (2, .int p2), (3, .int p3), (4, .ref o)])) => ?_)
      refine lv_iconst (v := 1) hx hb dL_cheapest_17 (by decide) ?_
      exact W.iret (v := 1) hx hb hr (fun t ht hW => ⟨⟨1, (u.1, u.2.1, u.2.2.1, u.2.2.2, g0), rfl, ⟨hp.1, Or.inl ⟨hcx, hp.2, rfl⟩⟩, by rw [ht]; exact hP, hD, by rw [ht]; exact hz, by rw [ht]; exact hs⟩, hS.F ht⟩) hS.2.2 dL_cheapest_18
    · obtain ⟨hu, hcx⟩ := hu
      subst hu
      refine vx_catch (own := RL) (name := "java/lang/IllegalArgumentException") hown [⟨0, 12, 15, 19⟩] ⟨0, 12, 19, 13⟩ [] (by rw [htb]; rfl) (fun z hz => by rw [List.mem_singleton.mp hz]; exact Or.inr ⟨by decide, "java/lang/IndexOutOfBoundsException", hts (.classLink RL 19 "java/lang/IndexOutOfBoundsException") (by decide +kernel), hNc.2.2⟩) (by decide) (by decide) (hts (.classLink RL 13 "java/lang/IllegalArgumentException") (by decide +kernel)) (va_Nw.use rfl (hCE.2.2.1.2.2.1 (.castable "java/lang/IllegalArgumentException" "java/lang/IllegalArgumentException") (by decide +kernel))) hc1 hc2 hc3 ?_
      refine lv_astore hx hb dL_cheapest_19 hl (by decide) rfl (fun ls (hl : lv_has ls _ ([(5, .ref q9), (0, .ref q), (1, .int p1), (2, .int p2), (3, .int p3), (4, .ref o)])) => ?_)
      refine lv_iconst (v := 2) hx hb dL_cheapest_21 (by decide) ?_
      exact W.iret (v := 2) hx hb hr (fun t ht hW => ⟨⟨2, (u.1, u.2.1, u.2.2.1, u.2.2.2, g0), rfl, ⟨hp.1, Or.inr (Or.inl ⟨hcx, hp.2, rfl⟩)⟩, by rw [ht]; exact hP, hD, by rw [ht]; exact hz, by rw [ht]; exact hs⟩, hS.F ht⟩) hS.2.2 dL_cheapest_22
  · refine W.known (fun z1 z2 => ?_)
    have zS := hS.1
    refine W.tight (cells2 := min 12 (u.2.1 + 1000 - Fc)) (slots2 := min 1478 (u.2.2.1 + 9000 - Fs)) (by omega) (by omega) ?_
    refine lv_i2l (v := r.toInt64) hx hb dL_cheapest_10 rfl ?_
    refine va_last hx hb hK hP hD hS 0 0 rfl rfl (show ¬ ((0 : Int32) < 0 ∨ 1 ≤ (0 : Int32).toNatClampNeg) by decide) dL_cheapest_11 (fun H2 locs2 hP hD hS => ?_)
    refine lv_goto (tgt := 23) hx hb dL_cheapest_12 (by decide) ?_
    refine lv_iconst (v := 0) hx hb dL_cheapest_23 (by decide) ?_
    refine W.known (fun z3 z4 => ?_)
    refine W.widen (k := 12) (n := 1478) (Nat.min_le_left _ _) (Nat.min_le_left _ _) ?_
    have z5 : H2.size + Fc ≤ s.heap.size + u.2.1 + 1000 := by omega
    have z6 : nS s.heap.size H2 + Fs ≤ u.2.2.1 + 9000 := by omega
    exact W.iret (v := 0) hx hb hr (fun t ht hW => ⟨⟨0, (u.1, u.2.1, u.2.2.1, u.2.2.2, vp_updL g0 (0 : Int32).toNatClampNeg r.toInt64), rfl, ⟨hp.1, Or.inr (Or.inr ⟨hp.2.1, hp.2.2.1, rfl, r, updL_0 (g := g0) (x := r.toInt64), hp.2.2.2⟩)⟩, by rw [ht]; exact hP, hD, by rw [ht]; exact z5, by rw [ht]; exact z6⟩, hS.F ht⟩) hS.2.2 dL_cheapest_24
theorem dL_path_0 : decode cL_path 0 = .ok (.aload 4, 2) := dk_25 (by decide +kernel)
theorem dL_path_2 : decode cL_path 2 = .ok (.iconst 0, 1) := dk_3 (by decide +kernel)
theorem dL_path_3 : decode cL_path 3 = .ok (.aload_n 0, 1) := dk_42 (by decide +kernel)
theorem dL_path_4 : decode cL_path 4 = .ok (.iload_n 1, 1) := dk_27 (by decide +kernel)
theorem dL_path_5 : decode cL_path 5 = .ok (.iload_n 2, 1) := dk_28 (by decide +kernel)
theorem dL_path_6 : decode cL_path 6 = .ok (.iload_n 3, 1) := dk_29 (by decide +kernel)
theorem dL_path_7 : decode cL_path 7 = .ok (.invokevirtual 82, 3) := dk_182 (by decide +kernel)
theorem dL_path_10 : decode cL_path 10 = .ok (.i2l, 1) := dk_133 (by decide +kernel)
theorem dL_path_11 : decode cL_path 11 = .ok (.lastore, 1) := dk_80 (by decide +kernel)
theorem dL_path_12 : decode cL_path 12 = .ok (.goto 11, 3) := dk_167 (by decide +kernel)
theorem dL_path_15 : decode cL_path 15 = .ok (.astore 5, 2) := dk_58 (by decide +kernel)
theorem dL_path_17 : decode cL_path 17 = .ok (.iconst 1, 1) := dk_4 (by decide +kernel)
theorem dL_path_18 : decode cL_path 18 = .ok (.ireturn, 1) := dk_172 (by decide +kernel)
theorem dL_path_19 : decode cL_path 19 = .ok (.astore 5, 2) := dk_58 (by decide +kernel)
theorem dL_path_21 : decode cL_path 21 = .ok (.iconst 2, 1) := dk_5 (by decide +kernel)
theorem dL_path_22 : decode cL_path 22 = .ok (.ireturn, 1) := dk_172 (by decide +kernel)
theorem dL_path_23 : decode cL_path 23 = .ok (.iconst 0, 1) := dk_3 (by decide +kernel)
theorem dL_path_24 : decode cL_path 24 = .ok (.ireturn, 1) := dk_172 (by decide +kernel)
def wsH_path : List Cond := .codeWith yL_path cL_path 6 (some .int) [(0, 12, 15, 19), (0, 12, 19, 13)] :: ([.classLink RL 19 "java/lang/IndexOutOfBoundsException", .classLink RL 13 "java/lang/IllegalArgumentException"] ++ (wsV RL 82 RX11 yX11_path wsU_path))
theorem gdwsH_path : wsH_path.all goodWord = true := gdC (by decide +kernel) (gdA (by decide +kernel) (gdV (by decide +kernel) gdwsU_path))
theorem gIwsH_path : GoodIn wsH_path (wsV RL 82 RX11 yX11_path wsU_path) := goodIn_sub (fun w h => List.mem_cons_of_mem _ (List.mem_append_right _ h)) (gdV (by decide +kernel) gdwsU_path)
set_option maxHeartbeats 4000000 in
set_option maxRecDepth 100000 in
theorem H_path (l : Launch) (hst : l.stackTraces = false) (dC : Nat → ClassId) (dI : Nat → Nat → Nat) (kX : Nat → ClassId) (kT : Nat → ClassId) (kM : Nat → ClassId) (kV : Nat → ClassId) (kC : Nat → ClassId) (kN : Nat → ClassId) (kJ : Nat → ClassId) (kL : Nat → ClassId) (kF : Nat → ClassId) (kO : Nat → ClassId) (kQ : Nat → ClassId) (kG : Nat → ClassId) (kw : ClassId) (q : Nat) (L : LT) (Fc Fs : Nat) (w : va_W) (p1 : Int32) (p2 : Int32) (p3 : Int32) (o : Nat) (kR : ClassId) (g0 : Nat → Int64) (hw : ClsI kX kT kM kV kC kN kJ kL kF kO kQ kG kw q L Fc Fs w) (hv0 : tVal L.2.1) (sz : Nat) : Met l yL_path wsH_path ({ frames := 8, cells := 12, slots := 1478, locals := 125 }) (va_Pc [.ref q, .int p1, .int p2, .int p3, .ref o] (fun U => U.heap.size = sz ∧ va_P (dC, dI) vwCl ((o, .inl (kR, 1, .inr (.inl g0))) :: w) U.heap ∧ va_K (dC, dI) vwCl ((kR, .long) :: (tX kX ++ (tT kT ++ (tM kM ++ (tV kV ++ (tC kC ++ (tN kN ++ (tJ kJ ++ (tL kL ++ (tF kF ++ (tO kO ++ (tQ kQ ++ (tG kG ++ (tW kw)))))))))))))) U ∧ va_D (fun _ => True) ((o, .inl (kR, 1, .inr (.inl g0))) :: w) ∧ CE (va_A ((o, .inl (kR, 1, .inr (.inl g0))) :: w) sz) U U.heap ∧ NcE U)) (va_Qi (fun (r : Int32) (u : (LT × Nat × Nat × va_W × (Nat → Int64))) => ClsI kX kT kM kV kC kN kJ kL kF kO kQ kG kw q u.1 u.2.1 u.2.2.1 u.2.2.2.1 ∧ ((¬ ((0 ≤ p1.toInt ∧ p1.toInt ≤ 11) ∧ 0 ≤ p2.toInt ∧ p2.toInt ≤ 11) ∧ u.1 = L ∧ r = 1) ∨ ((((0 ≤ p1.toInt ∧ p1.toInt ≤ 11) ∧ 0 ≤ p2.toInt ∧ p2.toInt ≤ 11) ∧ p1.toInt = p2.toInt) ∧ u.1 = L ∧ r = 2) ∨ ((((0 ≤ p1.toInt ∧ p1.toInt ≤ 11) ∧ 0 ≤ p2.toInt ∧ p2.toInt ≤ 11) ∧ ¬ p1.toInt = p2.toInt) ∧ u.1 = L ∧ r = 0 ∧ ∃ x : Int32, u.2.2.2.2 0 = x.toInt64 ∧ pAns L.2.1 p1.toInt.toNat p2.toInt.toNat p3.toInt x.toInt))) (fun u t => va_P (dC, dI) vwCl ((o, .inl (kR, 1, .inr (.inl u.2.2.2.2))) :: u.2.2.2.1) t.heap ∧ va_D (va_A ((o, .inl (kR, 1, .inr (.inl g0))) :: w) sz) ((o, .inl (kR, 1, .inr (.inl u.2.2.2.2))) :: u.2.2.2.1) ∧ t.heap.size + Fc ≤ sz + u.2.1 + 1000 ∧ nS sz t.heap + Fs ≤ u.2.2.1 + 9000) (va_A ((o, .inl (kR, 1, .inr (.inl g0))) :: w) sz)) 12 1478 (va_A ((o, .inl (kR, 1, .inr (.inl g0))) :: w) sz) := by
  refine ofWC (hh := [(0, 12, 15, 19), (0, 12, 19, 13)]) (cc := cL_path) (maxL := 6) (ret := (some .int)) (by decide) rfl ?_
  intro p e s m args below meth c s₁ B hml hv
  obtain ⟨rfl, hsz, hP, hK, hD0, hCE, hNc⟩ := hv
  have hx := B.exec
  have hb := B.bytes
  have hr := B.returns
  have hts := atoms_spec (ws := wsH_path) B.pre
  have hown : s.vm.findClass RL = some m.cls := findClass_of_methodNamed B.named
  have hlocks := B.notSynchronized
  have htb : c.exceptionTable.toList = tableOf [(0, 12, 15, 19), (0, 12, 19, 13)] := vx_table (x := yL_path) B (hts _ List.mem_cons_self)
  subst hsz
  have hD := hD0.self (sz := s.heap.size)
  generalize hAe : va_A ((o, .inl (kR, 1, .inr (.inl g0))) :: w) s.heap.size = A at hD hCE ⊢
  have hA : ∀ q : Nat, s.heap.size ≤ q → A q := fun q h => by rw [← hAe]; exact Or.inr h
  have hl := lv_entry ([.ref q, .int p1, .int p2, .int p3, .ref o]) (n := 6) (Nat.le_of_ble_eq_true rfl)
  rw [lg_entry_eq]
  generalize (lg_sl ([.ref q, .int p1, .int p2, .int p3, .ref o]) ++ List.replicate (6 - (lg_sl ([.ref q, .int p1, .int p2, .int p3, .ref o])).length) Slot.unset).toArray = ls at hl ⊢
  have hl : lv_has ls 6 [(0, .ref q), (1, .int p1), (2, .int p2), (3, .int p3), (4, .ref o)] := hl
  refine lv_aload hx hb dL_path_0 (lv_at hl 4 rfl) ?_
  refine lv_iconst (v := 0) hx hb dL_path_2 (by decide) ?_
  refine lv_aload_n hx hb dL_path_3 rfl (lv_at hl 0 rfl) ?_
  refine lv_iload_n hx hb dL_path_4 rfl (lv_at hl 1 rfl) ?_
  refine lv_iload_n hx hb dL_path_5 rfl (lv_at hl 2 rfl) ?_
  refine lv_iload_n hx hb dL_path_6 rfl (lv_at hl 3 rfl) ?_
  refine lawX_i (As := [.int p1, .int p2, .int p3]) (rest := [.int 0, .ref o]) ⟨hx, hb, hml, hown, hts⟩ (U_path l hst dC dI kX kT kM kV kC kN kJ kL kF kO kQ kG kw q L Fc Fs w p1 p2 p3 hw hv0 s.heap.size) (cwV 3 hts gIwsH_path rfl rfl rfl (by decide +kernel) ⟨Nat.le_of_ble_eq_true rfl, Nat.le_of_ble_eq_true rfl⟩) hw.recv (hK.mem (fun _ h => List.mem_cons_of_mem _ h)) hCE hA hP hD rfl hl.1 (lv_room (Nat.le_of_ble_eq_true rfl)) dL_path_7 ⟨by decide +kernel, by decide +kernel⟩ (fun E ce q9 u H1 locs1 hp hPE hP hD hS hz hs hc1 hc2 hc3 => ?_) (fun r u H1 locs1 hp hP hD hS hz hs => ?_)
  · refine vx_widen (k := 12) (n := 1478) (by decide +kernel) (by decide +kernel) ?_
    rcases hPE with hu | hu
    · obtain ⟨hu, hcx⟩ := hu
      subst hu
      refine vx_catch (own := RL) (name := "java/lang/IndexOutOfBoundsException") hown [] ⟨0, 12, 15, 19⟩ [⟨0, 12, 19, 13⟩] (by rw [htb]; rfl) (fun z hz => absurd hz List.not_mem_nil) (by decide) (by decide) (hts (.classLink RL 19 "java/lang/IndexOutOfBoundsException") (by decide +kernel)) (va_Nw.use rfl (hCE.2.2.1.2.2.2.1 (.castable "java/lang/IndexOutOfBoundsException" "java/lang/IndexOutOfBoundsException") (by decide +kernel))) hc1 hc2 hc3 ?_
      refine lv_astore hx hb dL_path_15 hl (by decide) rfl (fun ls (hl : lv_has ls _ ([(5, .ref q9), (0, .ref q), (1, .int p1), (2, .int p2), (3, .int p3), (4, .ref o)])) => ?_)
      refine lv_iconst (v := 1) hx hb dL_path_17 (by decide) ?_
      exact W.iret (v := 1) hx hb hr (fun t ht hW => ⟨⟨1, (u.1, u.2.1, u.2.2.1, u.2.2.2, g0), rfl, ⟨hp.1, Or.inl ⟨hcx, hp.2, rfl⟩⟩, by rw [ht]; exact hP, hD, by rw [ht]; exact hz, by rw [ht]; exact hs⟩, hS.F ht⟩) hS.2.2 dL_path_18
    · obtain ⟨hu, hcx⟩ := hu
      subst hu
      refine vx_catch (own := RL) (name := "java/lang/IllegalArgumentException") hown [⟨0, 12, 15, 19⟩] ⟨0, 12, 19, 13⟩ [] (by rw [htb]; rfl) (fun z hz => by rw [List.mem_singleton.mp hz]; exact Or.inr ⟨by decide, "java/lang/IndexOutOfBoundsException", hts (.classLink RL 19 "java/lang/IndexOutOfBoundsException") (by decide +kernel), hNc.2.2⟩) (by decide) (by decide) (hts (.classLink RL 13 "java/lang/IllegalArgumentException") (by decide +kernel)) (va_Nw.use rfl (hCE.2.2.1.2.2.1 (.castable "java/lang/IllegalArgumentException" "java/lang/IllegalArgumentException") (by decide +kernel))) hc1 hc2 hc3 ?_
      refine lv_astore hx hb dL_path_19 hl (by decide) rfl (fun ls (hl : lv_has ls _ ([(5, .ref q9), (0, .ref q), (1, .int p1), (2, .int p2), (3, .int p3), (4, .ref o)])) => ?_)
      refine lv_iconst (v := 2) hx hb dL_path_21 (by decide) ?_
      exact W.iret (v := 2) hx hb hr (fun t ht hW => ⟨⟨2, (u.1, u.2.1, u.2.2.1, u.2.2.2, g0), rfl, ⟨hp.1, Or.inr (Or.inl ⟨hcx, hp.2, rfl⟩)⟩, by rw [ht]; exact hP, hD, by rw [ht]; exact hz, by rw [ht]; exact hs⟩, hS.F ht⟩) hS.2.2 dL_path_22
  · refine W.known (fun z1 z2 => ?_)
    have zS := hS.1
    refine W.tight (cells2 := min 12 (u.2.1 + 1000 - Fc)) (slots2 := min 1478 (u.2.2.1 + 9000 - Fs)) (by omega) (by omega) ?_
    refine lv_i2l (v := r.toInt64) hx hb dL_path_10 rfl ?_
    refine va_last hx hb hK hP hD hS 0 0 rfl rfl (show ¬ ((0 : Int32) < 0 ∨ 1 ≤ (0 : Int32).toNatClampNeg) by decide) dL_path_11 (fun H2 locs2 hP hD hS => ?_)
    refine lv_goto (tgt := 23) hx hb dL_path_12 (by decide) ?_
    refine lv_iconst (v := 0) hx hb dL_path_23 (by decide) ?_
    refine W.known (fun z3 z4 => ?_)
    refine W.widen (k := 12) (n := 1478) (Nat.min_le_left _ _) (Nat.min_le_left _ _) ?_
    have z5 : H2.size + Fc ≤ s.heap.size + u.2.1 + 1000 := by omega
    have z6 : nS s.heap.size H2 + Fs ≤ u.2.2.1 + 9000 := by omega
    exact W.iret (v := 0) hx hb hr (fun t ht hW => ⟨⟨0, (u.1, u.2.1, u.2.2.1, u.2.2.2, vp_updL g0 (0 : Int32).toNatClampNeg r.toInt64), rfl, ⟨hp.1, Or.inr (Or.inr ⟨hp.2.1, hp.2.2.1, rfl, r, updL_0 (g := g0) (x := r.toInt64), hp.2.2.2⟩)⟩, by rw [ht]; exact hP, hD, by rw [ht]; exact z5, by rw [ht]; exact z6⟩, hS.F ht⟩) hS.2.2 dL_path_24
theorem dL_tour_0 : decode cL_tour 0 = .ok (.aload_n 3, 1) := dk_45 (by decide +kernel)
theorem dL_tour_1 : decode cL_tour 1 = .ok (.iconst 0, 1) := dk_3 (by decide +kernel)
theorem dL_tour_2 : decode cL_tour 2 = .ok (.aload_n 0, 1) := dk_42 (by decide +kernel)
theorem dL_tour_3 : decode cL_tour 3 = .ok (.iload_n 1, 1) := dk_27 (by decide +kernel)
theorem dL_tour_4 : decode cL_tour 4 = .ok (.iload_n 2, 1) := dk_28 (by decide +kernel)
theorem dL_tour_5 : decode cL_tour 5 = .ok (.invokevirtual 85, 3) := dk_182 (by decide +kernel)
theorem dL_tour_8 : decode cL_tour 8 = .ok (.i2l, 1) := dk_133 (by decide +kernel)
theorem dL_tour_9 : decode cL_tour 9 = .ok (.lastore, 1) := dk_80 (by decide +kernel)
theorem dL_tour_10 : decode cL_tour 10 = .ok (.goto 7, 3) := dk_167 (by decide +kernel)
theorem dL_tour_13 : decode cL_tour 13 = .ok (.astore 4, 2) := dk_58 (by decide +kernel)
theorem dL_tour_15 : decode cL_tour 15 = .ok (.iconst 1, 1) := dk_4 (by decide +kernel)
theorem dL_tour_16 : decode cL_tour 16 = .ok (.ireturn, 1) := dk_172 (by decide +kernel)
theorem dL_tour_17 : decode cL_tour 17 = .ok (.iconst 0, 1) := dk_3 (by decide +kernel)
theorem dL_tour_18 : decode cL_tour 18 = .ok (.ireturn, 1) := dk_172 (by decide +kernel)
def wsH_tour : List Cond := .codeWith yL_tour cL_tour 5 (some .int) [(0, 10, 13, 13)] :: ([.classLink RL 13 "java/lang/IllegalArgumentException"] ++ (wsV RL 85 RX11 yX11_tour wsU_tour))
theorem gdwsH_tour : wsH_tour.all goodWord = true := gdC (by decide +kernel) (gdA (by decide +kernel) (gdV (by decide +kernel) gdwsU_tour))
theorem gIwsH_tour : GoodIn wsH_tour (wsV RL 85 RX11 yX11_tour wsU_tour) := goodIn_sub (fun w h => List.mem_cons_of_mem _ (List.mem_append_right _ h)) (gdV (by decide +kernel) gdwsU_tour)
set_option maxHeartbeats 4000000 in
set_option maxRecDepth 100000 in
theorem H_tour (l : Launch) (hst : l.stackTraces = false) (dC : Nat → ClassId) (dI : Nat → Nat → Nat) (kX : Nat → ClassId) (kT : Nat → ClassId) (kM : Nat → ClassId) (kV : Nat → ClassId) (kC : Nat → ClassId) (kN : Nat → ClassId) (kJ : Nat → ClassId) (kL : Nat → ClassId) (kF : Nat → ClassId) (kO : Nat → ClassId) (kQ : Nat → ClassId) (kG : Nat → ClassId) (kw : ClassId) (q : Nat) (L : LT) (Fc Fs : Nat) (w : va_W) (p1 : Int32) (p2 : Int32) (o : Nat) (kR : ClassId) (g0 : Nat → Int64) (hw : ClsI kX kT kM kV kC kN kJ kL kF kO kQ kG kw q L Fc Fs w) (hv0 : tVal L.2.1) (sz : Nat) : Met l yL_tour wsH_tour ({ frames := 7, cells := 13, slots := 1484, locals := 110 }) (va_Pc [.ref q, .int p1, .int p2, .ref o] (fun U => U.heap.size = sz ∧ va_P (dC, dI) vwCl ((o, .inl (kR, 1, .inr (.inl g0))) :: w) U.heap ∧ va_K (dC, dI) vwCl ((kR, .long) :: (tX kX ++ (tT kT ++ (tM kM ++ (tV kV ++ (tC kC ++ (tN kN ++ (tJ kJ ++ (tL kL ++ (tF kF ++ (tO kO ++ (tQ kQ ++ (tG kG ++ (tW kw)))))))))))))) U ∧ va_D (fun _ => True) ((o, .inl (kR, 1, .inr (.inl g0))) :: w) ∧ CE (va_A ((o, .inl (kR, 1, .inr (.inl g0))) :: w) sz) U U.heap ∧ NcE U)) (va_Qi (fun (r : Int32) (u : (LT × Nat × Nat × va_W × (Nat → Int64))) => ClsI kX kT kM kV kC kN kJ kL kF kO kQ kG kw q u.1 u.2.1 u.2.2.1 u.2.2.2.1 ∧ ((¬ (0 ≤ p1.toInt ∧ p1.toInt ≤ 4095 ∧ 2 ≤ cntB (bI p1) 12 ∧ cntB (bI p1) 12 ≤ 8) ∧ u.1 = L ∧ r = 1) ∨ (((0 ≤ p1.toInt ∧ p1.toInt ≤ 4095 ∧ 2 ≤ cntB (bI p1) 12 ∧ cntB (bI p1) 12 ≤ 8) ∧ False) ∧ u.1 = L ∧ r = 2) ∨ (((0 ≤ p1.toInt ∧ p1.toInt ≤ 4095 ∧ 2 ≤ cntB (bI p1) 12 ∧ cntB (bI p1) 12 ≤ 8) ∧ ¬ False) ∧ u.1 = L ∧ r = 0 ∧ ∃ x : Int32, u.2.2.2.2 0 = x.toInt64 ∧ tuA L.2.1 (bI p1) p2.toInt x.toInt))) (fun u t => va_P (dC, dI) vwCl ((o, .inl (kR, 1, .inr (.inl u.2.2.2.2))) :: u.2.2.2.1) t.heap ∧ va_D (va_A ((o, .inl (kR, 1, .inr (.inl g0))) :: w) sz) ((o, .inl (kR, 1, .inr (.inl u.2.2.2.2))) :: u.2.2.2.1) ∧ t.heap.size + Fc ≤ sz + u.2.1 + 1000 ∧ nS sz t.heap + Fs ≤ u.2.2.1 + 9000) (va_A ((o, .inl (kR, 1, .inr (.inl g0))) :: w) sz)) 13 1484 (va_A ((o, .inl (kR, 1, .inr (.inl g0))) :: w) sz) := by
  refine ofWC (hh := [(0, 10, 13, 13)]) (cc := cL_tour) (maxL := 5) (ret := (some .int)) (by decide) rfl ?_
  intro p e s m args below meth c s₁ B hml hv
  obtain ⟨rfl, hsz, hP, hK, hD0, hCE, hNc⟩ := hv
  have hx := B.exec
  have hb := B.bytes
  have hr := B.returns
  have hts := atoms_spec (ws := wsH_tour) B.pre
  have hown : s.vm.findClass RL = some m.cls := findClass_of_methodNamed B.named
  have hlocks := B.notSynchronized
  have htb : c.exceptionTable.toList = tableOf [(0, 10, 13, 13)] := vx_table (x := yL_tour) B (hts _ List.mem_cons_self)
  subst hsz
  have hD := hD0.self (sz := s.heap.size)
  generalize hAe : va_A ((o, .inl (kR, 1, .inr (.inl g0))) :: w) s.heap.size = A at hD hCE ⊢
  have hA : ∀ q : Nat, s.heap.size ≤ q → A q := fun q h => by rw [← hAe]; exact Or.inr h
  have hl := lv_entry ([.ref q, .int p1, .int p2, .ref o]) (n := 5) (Nat.le_of_ble_eq_true rfl)
  rw [lg_entry_eq]
  generalize (lg_sl ([.ref q, .int p1, .int p2, .ref o]) ++ List.replicate (5 - (lg_sl ([.ref q, .int p1, .int p2, .ref o])).length) Slot.unset).toArray = ls at hl ⊢
  have hl : lv_has ls 5 [(0, .ref q), (1, .int p1), (2, .int p2), (3, .ref o)] := hl
  refine lv_aload_n hx hb dL_tour_0 rfl (lv_at hl 3 rfl) ?_
  refine lv_iconst (v := 0) hx hb dL_tour_1 (by decide) ?_
  refine lv_aload_n hx hb dL_tour_2 rfl (lv_at hl 0 rfl) ?_
  refine lv_iload_n hx hb dL_tour_3 rfl (lv_at hl 1 rfl) ?_
  refine lv_iload_n hx hb dL_tour_4 rfl (lv_at hl 2 rfl) ?_
  refine lawX_i (As := [.int p1, .int p2]) (rest := [.int 0, .ref o]) ⟨hx, hb, hml, hown, hts⟩ (U_tour l hst dC dI kX kT kM kV kC kN kJ kL kF kO kQ kG kw q L Fc Fs w p1 p2 hw hv0 s.heap.size) (cwV 2 hts gIwsH_tour rfl rfl rfl (by decide +kernel) ⟨Nat.le_of_ble_eq_true rfl, Nat.le_of_ble_eq_true rfl⟩) hw.recv (hK.mem (fun _ h => List.mem_cons_of_mem _ h)) hCE hA hP hD rfl hl.1 (lv_room (Nat.le_of_ble_eq_true rfl)) dL_tour_5 ⟨by decide +kernel, by decide +kernel⟩ (fun E ce q9 u H1 locs1 hp hPE hP hD hS hz hs hc1 hc2 hc3 => ?_) (fun r u H1 locs1 hp hP hD hS hz hs => ?_)
  · refine vx_widen (k := 13) (n := 1484) (by decide +kernel) (by decide +kernel) ?_
    have hu := hPE
    obtain ⟨hu, hcx⟩ := hu
    subst hu
    refine vx_catch (own := RL) (name := "java/lang/IllegalArgumentException") hown [] ⟨0, 10, 13, 13⟩ [] (by rw [htb]; rfl) (fun z hz => absurd hz List.not_mem_nil) (by decide) (by decide) (hts (.classLink RL 13 "java/lang/IllegalArgumentException") (by decide +kernel)) (va_Nw.use rfl (hCE.2.2.1.2.2.1 (.castable "java/lang/IllegalArgumentException" "java/lang/IllegalArgumentException") (by decide +kernel))) hc1 hc2 hc3 ?_
    refine lv_astore hx hb dL_tour_13 hl (by decide) rfl (fun ls (hl : lv_has ls _ ([(4, .ref q9), (0, .ref q), (1, .int p1), (2, .int p2), (3, .ref o)])) => ?_)
    refine lv_iconst (v := 1) hx hb dL_tour_15 (by decide) ?_
    exact W.iret (v := 1) hx hb hr (fun t ht hW => ⟨⟨1, (u.1, u.2.1, u.2.2.1, u.2.2.2, g0), rfl, ⟨hp.1, Or.inl ⟨hcx, hp.2, rfl⟩⟩, by rw [ht]; exact hP, hD, by rw [ht]; exact hz, by rw [ht]; exact hs⟩, hS.F ht⟩) hS.2.2 dL_tour_16
  · refine W.known (fun z1 z2 => ?_)
    have zS := hS.1
    refine W.tight (cells2 := min 13 (u.2.1 + 1000 - Fc)) (slots2 := min 1484 (u.2.2.1 + 9000 - Fs)) (by omega) (by omega) ?_
    refine lv_i2l (v := r.toInt64) hx hb dL_tour_8 rfl ?_
    refine va_last hx hb hK hP hD hS 0 0 rfl rfl (show ¬ ((0 : Int32) < 0 ∨ 1 ≤ (0 : Int32).toNatClampNeg) by decide) dL_tour_9 (fun H2 locs2 hP hD hS => ?_)
    refine lv_goto (tgt := 17) hx hb dL_tour_10 (by decide) ?_
    refine lv_iconst (v := 0) hx hb dL_tour_17 (by decide) ?_
    refine W.known (fun z3 z4 => ?_)
    refine W.widen (k := 13) (n := 1484) (Nat.min_le_left _ _) (Nat.min_le_left _ _) ?_
    have z5 : H2.size + Fc ≤ s.heap.size + u.2.1 + 1000 := by omega
    have z6 : nS s.heap.size H2 + Fs ≤ u.2.2.1 + 9000 := by omega
    exact W.iret (v := 0) hx hb hr (fun t ht hW => ⟨⟨0, (u.1, u.2.1, u.2.2.1, u.2.2.2, vp_updL g0 (0 : Int32).toNatClampNeg r.toInt64), rfl, ⟨hp.1, Or.inr (Or.inr ⟨⟨hp.2.1, not_false⟩, hp.2.2.1, rfl, r, updL_0 (g := g0) (x := r.toInt64), hp.2.2.2⟩)⟩, by rw [ht]; exact hP, hD, by rw [ht]; exact z5, by rw [ht]; exact z6⟩, hS.F ht⟩) hS.2.2 dL_tour_18
end

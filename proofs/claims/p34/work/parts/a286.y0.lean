/-! the law's calls -/
theorem Met.sL {l : Launch} {y : MethodName} {ws : List Cond} {rm : Room} {av : List Value} {P0 : State → Prop} {mc ms : Nat} {fr : Addr → Prop} {S : Type} {φ : Int64 → S → Prop} {B : S → State → Prop} {A : Nat → Prop} (h : Met l y ws rm (va_Pc av P0) (va_Ql φ B A) mc ms fr) (H0 : Heap) : Met l y ws rm (va_Pc av (fun U => U.heap = H0 ∧ P0 U)) (va_Ql φ (fun u t => B u t ∧ SzK H0 t.heap) A) mc ms fr := by
  intro p e h1 h2 h3 s m args below hf ha hP hK
  obtain ⟨n, o, q1, q2, q3, ⟨⟨r, u, q4, q5, q6⟩, q7⟩, q8⟩ := h p e h1 h2 h3 s m args below hf ha ⟨hP.1, hP.2.2⟩ hK
  obtain ⟨L, q9, _⟩ := id q8
  exact ⟨n, o, q1, q2, q3, ⟨⟨r, u, q4, q5, q6, by rw [← hP.2.1]; exact SzK.of q9⟩, q7⟩, q8⟩
theorem lw_free {A : Nat → Prop} {w : va_W} {s : State} {H : Heap} {locs : List Loc} (hD : va_D A w) (hS : va_S A s.heap H locs) (hA : ∀ q : Nat, s.heap.size ≤ q → A q) : ∀ x, va_A w H.size x → A x := by
  rintro x (⟨k, e9, h⟩ | h)
  · exact hD.2 k _ h
  · exact hA x (Nat.le_trans hS.1 h)
/-- none of the three throws is another -/
def NcE (U : State) : Prop := va_Nc "java/lang/IndexOutOfBoundsException" "java/lang/IllegalStateException" U ∧ va_Nc "java/lang/IllegalStateException" "java/lang/IllegalArgumentException" U ∧ va_Nc "java/lang/IllegalArgumentException" "java/lang/IndexOutOfBoundsException" U
theorem NcE.moved {U V : State} (hv : U.vm.Alike V.vm) (h : NcE U) : NcE V := ⟨va_Nc.moved hv h.1, va_Nc.moved hv h.2.1, va_Nc.moved hv h.2.2⟩
theorem lawC_i {p : Program} {l : Launch} {e : Env} {R : Room} {s : State} {m : MethodId} {args : Array Value} {below : List Frame} {meth : Method} {c : Code} {H : Heap} {locs : List Loc} {cells slots : Nat} {Q : State → Prop} {cc : ByteArray} {nL : Nat} {Ts : List Cond} {own : String} {pc : Nat} {ls : Array Slot} {A : Nat → Prop} {D : va_G} {τ : List (ClassId × FieldType)} {y : MethodName} {ws : List Cond} {rm : Room} {mc ms n index maxL : Nat} {bytes : ByteArray} {ret : Option FieldType} {q : Nat} {As rest : List Value} {Fc Fs : Nat} {w v : va_W} {eo : Nat × va_E} {post : Int32 → (LT × Nat × Nat × va_W) → Prop} (S9 : CallFix p m c cc nL s args Ts own)
    (hM : Met l y ws rm (va_Pc (.ref q :: As) (fun U => U.heap.size = H.size ∧ va_P D vwCl w U.heap ∧ va_K D vwCl τ U ∧ va_D (fun _ => True) w ∧ CE (va_A w H.size) U U.heap)) (va_Qi post (fun u t => va_P D vwCl u.2.2.2 t.heap ∧ va_D (va_A w H.size) u.2.2.2 ∧ t.heap.size + Fc ≤ H.size + u.2.1 + 1000 ∧ nS H.size t.heap + Fs ≤ u.2.2.1 + 9000) (va_A w H.size)) mc ms (va_A w H.size))
    (cw : CallW R s args own RX11 index y bytes maxL ret ws rm mc ms n) (hq : ∃ fs, w[0]? = some (q, .inr (11, fs))) (hK : va_K D vwCl τ s) (hE : CE A s s.heap) (hA : ∀ q : Nat, s.heap.size ≤ q → A q) (hP : va_P D vwCl (eo :: (w ++ v)) H) (hD : va_D A (eo :: (w ++ v))) (hS : va_S A s.heap H locs)
    (hn : As.length = n) (hsize : ls.size = nL) (hW : 2 * (F0 m pc ls (As.reverse ++ .ref q :: rest)).monitorRoom + (rest.map fun v => v.category).sum ≤ 8) (hdg : decode cc pc = .ok (.invokevirtual index, 3)) (hf : cells + mc ≤ R.cells ∧ slots + ms ≤ R.slots)
    (kk : ∀ (r : Int32) (u : (LT × Nat × Nat × va_W)) (H1 : Heap) (locs1 : List Loc), post r u → va_P D vwCl (eo :: (u.2.2.2 ++ v)) H1 → va_D A (eo :: (u.2.2.2 ++ v)) → va_S A s.heap H1 locs1 → H1.size + Fc ≤ H.size + u.2.1 + 1000 → nS s.heap.size H1 + Fs ≤ nS s.heap.size H + u.2.2.1 + 9000 → W p l e R s m args below meth c H1 locs1 (cells + mc) (slots + ms) Q (F0 m (pc + 3) ls (.int r :: rest))) :
    W p l e R s m args below meth c H locs cells slots Q (F0 m pc ls (As.reverse ++ .ref q :: rest)) := by
  obtain ⟨fs, hq⟩ := hq
  have pm : (eo :: (w ++ v)).Perm (w ++ (eo :: v)) := List.perm_middle.symm
  have hPc : va_P D vwCl w H := hP.mem (fun x hx => pm.mem_iff.mpr (List.mem_append_left _ hx))
  have hDc : va_D A w := (hD.perm pm).left
  have hFc := lw_free hDc hS hA
  refine va_calli (va_runV (As := As) (rest := rest) S9 (Met.sI hM H) cw ⟨fun a U g mk z => by obtain ⟨q0, q1, q2, qP, qK, qD, qE⟩ := z; exact ⟨q0, q1, q2, qP, va_K.moved (u := U) (U := U.calling g mk a) (Vm.Alike.refl U.vm) qK, qD, qE.call⟩, va_recv hK hPc (ci := 11) (q0 := 0) rfl hq, fun U hU9 hW => ⟨rfl, hU9, by rw [hU9], by rw [hU9]; exact hPc, va_K.moved hW.alike hK, hDc.weaken (fun _ _ _ _ => trivial), by rw [hU9]; exact ((hE.kept (fun a h1 h2 => hS.2.1 a h1 h2)).narrow hFc).warm hW⟩⟩ rfl hn hsize rfl hW hdg hf) hS (fun x _ h => hFc x h) hFc (fun r u t H1 locs ht hvm hw hB hz1 hk1 hS1 => ?_)
  obtain ⟨⟨hP1, hD1, hz, hs⟩, hK9⟩ := hB
  rw [ht] at hP1 hz hs hK9
  obtain ⟨hP2, hD2⟩ := frameG pm (ws' := eo :: (u.2.2.2 ++ v)) List.perm_middle.symm hP hD hk1 hFc hP1 hD1
  exact kk r u H1 locs hw hP2 hD2 hS1 hz (by have := hK9.n hS.1; omega)
theorem lawR_i {p : Program} {l : Launch} {e : Env} {R : Room} {s : State} {m : MethodId} {args : Array Value} {below : List Frame} {meth : Method} {c : Code} {H : Heap} {locs : List Loc} {cells slots : Nat} {Q : State → Prop} {cc : ByteArray} {nL : Nat} {Ts : List Cond} {own : String} {pc : Nat} {ls : Array Slot} {A : Nat → Prop} {D : va_G} {τ : List (ClassId × FieldType)} {y : MethodName} {ws : List Cond} {rm : Room} {mc ms n index maxL : Nat} {bytes : ByteArray} {ret : Option FieldType} {q : Nat} {As rest : List Value} {w v : va_W} {eo : Nat × va_E} {post : Int32 → (TT × Int32 × va_W) → Prop} (S9 : CallFix p m c cc nL s args Ts own)
    (hM : Met l y ws rm (va_Pc (.ref q :: As) (fun U => U.heap.size = H.size ∧ va_P D vwCl v U.heap ∧ va_K D vwCl τ U ∧ va_D (fun _ => True) v ∧ StrA (va_A v H.size) U U.heap)) (va_Qi post (fun u t => va_P D vwCl u.2.2 t.heap ∧ va_D (va_A v H.size) u.2.2) (va_A v H.size)) mc ms (va_A v H.size))
    (cw : CallW R s args own RX12 index y bytes maxL ret ws rm mc ms n) (hq : ∃ fs, v[0]? = some (q, .inr (12, fs))) (hK : va_K D vwCl τ s) (hE : StrA A s s.heap) (hA : ∀ q : Nat, s.heap.size ≤ q → A q) (hP : va_P D vwCl (eo :: (w ++ v)) H) (hD : va_D A (eo :: (w ++ v))) (hS : va_S A s.heap H locs)
    (hn : As.length = n) (hsize : ls.size = nL) (hW : 2 * (F0 m pc ls (As.reverse ++ .ref q :: rest)).monitorRoom + (rest.map fun v => v.category).sum ≤ 8) (hdg : decode cc pc = .ok (.invokevirtual index, 3)) (hf : cells + mc ≤ R.cells ∧ slots + ms ≤ R.slots)
    (kk : ∀ (r : Int32) (u : TT × Int32 × va_W) (H1 : Heap) (locs1 : List Loc), post r u → va_P D vwCl (eo :: (w ++ u.2.2)) H1 → va_D A (eo :: (w ++ u.2.2)) → va_S A s.heap H1 locs1 → W p l e R s m args below meth c H1 locs1 (cells + mc) (slots + ms) Q (F0 m (pc + 3) ls (.int r :: rest))) :
    W p l e R s m args below meth c H locs cells slots Q (F0 m pc ls (As.reverse ++ .ref q :: rest)) := by
  obtain ⟨fs, hq⟩ := hq
  have pm : (eo :: (w ++ v)).Perm (v ++ (eo :: w)) := List.perm_append_comm (l₁ := eo :: w) (l₂ := v)
  have hPc : va_P D vwCl v H := hP.mem (fun x hx => pm.mem_iff.mpr (List.mem_append_left _ hx))
  have hDc : va_D A v := (hD.perm pm).left
  have hFc := lw_free hDc hS hA
  refine va_calli (va_runV (As := As) (rest := rest) S9 hM cw ⟨fun a U g mk z => by obtain ⟨q0, q2, qP, qK, qD, qE⟩ := z; exact ⟨q0, q2, qP, va_K.moved (u := U) (U := U.calling g mk a) (Vm.Alike.refl U.vm) qK, qD, qE.same rfl⟩, va_recv hK hPc (ci := 12) (q0 := 0) rfl hq, fun U hU9 hW => ⟨rfl, by rw [hU9], by rw [hU9]; exact hPc, va_K.moved hW.alike hK, hDc.weaken (fun _ _ _ _ => trivial), by rw [hU9]; exact ((hE.kept (fun a h1 h2 => hS.2.1 a h1 h2)).narrow hFc).warm hW⟩⟩ rfl hn hsize rfl hW hdg hf) hS (fun x _ h => hFc x h) hFc (fun r u t H1 locs ht hvm hw hB hz1 hk1 hS1 => ?_)
  obtain ⟨hP1, hD1⟩ := hB
  rw [ht] at hP1
  obtain ⟨hP2, hD2⟩ := frameG pm (ws' := eo :: (w ++ u.2.2)) (List.perm_append_comm (l₁ := eo :: w) (l₂ := u.2.2)) hP hD hk1 hFc hP1 hD1
  exact kk r u H1 locs hw hP2 hD2 hS1
theorem lawC_v {p : Program} {l : Launch} {e : Env} {R : Room} {s : State} {m : MethodId} {args : Array Value} {below : List Frame} {meth : Method} {c : Code} {H : Heap} {locs : List Loc} {cells slots : Nat} {Q : State → Prop} {cc : ByteArray} {nL : Nat} {Ts : List Cond} {own : String} {pc : Nat} {ls : Array Slot} {A : Nat → Prop} {D : va_G} {τ : List (ClassId × FieldType)} {y : MethodName} {ws : List Cond} {rm : Room} {mc ms n index maxL : Nat} {bytes : ByteArray} {ret : Option FieldType} {q : Nat} {As rest : List Value} {Fc Fs : Nat} {w v : va_W} {eo : Nat × va_E} {post : (LT × Nat × Nat × va_W) → Prop} (S9 : CallFix p m c cc nL s args Ts own)
    (hM : Met l y ws rm (va_Pc (.ref q :: As) (fun U => U.heap.size = H.size ∧ va_P D vwCl w U.heap ∧ va_K D vwCl τ U ∧ va_D (fun _ => True) w ∧ CE (va_A w H.size) U U.heap)) (va_Qv post (fun u t => va_P D vwCl u.2.2.2 t.heap ∧ va_D (va_A w H.size) u.2.2.2 ∧ t.heap.size + Fc ≤ H.size + u.2.1 + 1000 ∧ nS H.size t.heap + Fs ≤ u.2.2.1 + 9000) (va_A w H.size)) mc ms (va_A w H.size))
    (cw : CallW R s args own RX11 index y bytes maxL ret ws rm mc ms n) (hq : ∃ fs, w[0]? = some (q, .inr (11, fs))) (hK : va_K D vwCl τ s) (hE : CE A s s.heap) (hA : ∀ q : Nat, s.heap.size ≤ q → A q) (hP : va_P D vwCl (eo :: (w ++ v)) H) (hD : va_D A (eo :: (w ++ v))) (hS : va_S A s.heap H locs)
    (hn : As.length = n) (hsize : ls.size = nL) (hW : 2 * (F0 m pc ls (As.reverse ++ .ref q :: rest)).monitorRoom + (rest.map fun v => v.category).sum ≤ 8) (hdg : decode cc pc = .ok (.invokevirtual index, 3)) (hf : cells + mc ≤ R.cells ∧ slots + ms ≤ R.slots)
    (kk : ∀ (u : (LT × Nat × Nat × va_W)) (H1 : Heap) (locs1 : List Loc), post u → va_P D vwCl (eo :: (u.2.2.2 ++ v)) H1 → va_D A (eo :: (u.2.2.2 ++ v)) → va_S A s.heap H1 locs1 → H1.size + Fc ≤ H.size + u.2.1 + 1000 → nS s.heap.size H1 + Fs ≤ nS s.heap.size H + u.2.2.1 + 9000 → W p l e R s m args below meth c H1 locs1 (cells + mc) (slots + ms) Q (F0 m (pc + 3) ls (rest))) :
    W p l e R s m args below meth c H locs cells slots Q (F0 m pc ls (As.reverse ++ .ref q :: rest)) := by
  obtain ⟨fs, hq⟩ := hq
  have pm : (eo :: (w ++ v)).Perm (w ++ (eo :: v)) := List.perm_middle.symm
  have hPc : va_P D vwCl w H := hP.mem (fun x hx => pm.mem_iff.mpr (List.mem_append_left _ hx))
  have hDc : va_D A w := (hD.perm pm).left
  have hFc := lw_free hDc hS hA
  refine va_callv (va_runV (As := As) (rest := rest) S9 (Met.sV hM H) cw ⟨fun a U g mk z => by obtain ⟨q0, q1, q2, qP, qK, qD, qE⟩ := z; exact ⟨q0, q1, q2, qP, va_K.moved (u := U) (U := U.calling g mk a) (Vm.Alike.refl U.vm) qK, qD, qE.call⟩, va_recv hK hPc (ci := 11) (q0 := 0) rfl hq, fun U hU9 hW => ⟨rfl, hU9, by rw [hU9], by rw [hU9]; exact hPc, va_K.moved hW.alike hK, hDc.weaken (fun _ _ _ _ => trivial), by rw [hU9]; exact ((hE.kept (fun a h1 h2 => hS.2.1 a h1 h2)).narrow hFc).warm hW⟩⟩ rfl hn hsize rfl hW hdg hf) hS (fun x _ h => hFc x h) hFc (fun u t H1 locs ht hvm hw hB hz1 hk1 hS1 => ?_)
  obtain ⟨⟨hP1, hD1, hz, hs⟩, hK9⟩ := hB
  rw [ht] at hP1 hz hs hK9
  obtain ⟨hP2, hD2⟩ := frameG pm (ws' := eo :: (u.2.2.2 ++ v)) List.perm_middle.symm hP hD hk1 hFc hP1 hD1
  exact kk u H1 locs hw hP2 hD2 hS1 hz (by have := hK9.n hS.1; omega)
theorem lawR_v {p : Program} {l : Launch} {e : Env} {R : Room} {s : State} {m : MethodId} {args : Array Value} {below : List Frame} {meth : Method} {c : Code} {H : Heap} {locs : List Loc} {cells slots : Nat} {Q : State → Prop} {cc : ByteArray} {nL : Nat} {Ts : List Cond} {own : String} {pc : Nat} {ls : Array Slot} {A : Nat → Prop} {D : va_G} {τ : List (ClassId × FieldType)} {y : MethodName} {ws : List Cond} {rm : Room} {mc ms n index maxL : Nat} {bytes : ByteArray} {ret : Option FieldType} {q : Nat} {As rest : List Value} {w v : va_W} {eo : Nat × va_E} {post : (TT × Int32 × va_W) → Prop} (S9 : CallFix p m c cc nL s args Ts own)
    (hM : Met l y ws rm (va_Pc (.ref q :: As) (fun U => U.heap.size = H.size ∧ va_P D vwCl v U.heap ∧ va_K D vwCl τ U ∧ va_D (fun _ => True) v ∧ StrA (va_A v H.size) U U.heap)) (va_Qv post (fun u t => va_P D vwCl u.2.2 t.heap ∧ va_D (va_A v H.size) u.2.2) (va_A v H.size)) mc ms (va_A v H.size))
    (cw : CallW R s args own RX12 index y bytes maxL ret ws rm mc ms n) (hq : ∃ fs, v[0]? = some (q, .inr (12, fs))) (hK : va_K D vwCl τ s) (hE : StrA A s s.heap) (hA : ∀ q : Nat, s.heap.size ≤ q → A q) (hP : va_P D vwCl (eo :: (w ++ v)) H) (hD : va_D A (eo :: (w ++ v))) (hS : va_S A s.heap H locs)
    (hn : As.length = n) (hsize : ls.size = nL) (hW : 2 * (F0 m pc ls (As.reverse ++ .ref q :: rest)).monitorRoom + (rest.map fun v => v.category).sum ≤ 8) (hdg : decode cc pc = .ok (.invokevirtual index, 3)) (hf : cells + mc ≤ R.cells ∧ slots + ms ≤ R.slots)
    (kk : ∀ (u : TT × Int32 × va_W) (H1 : Heap) (locs1 : List Loc), post u → va_P D vwCl (eo :: (w ++ u.2.2)) H1 → va_D A (eo :: (w ++ u.2.2)) → va_S A s.heap H1 locs1 → W p l e R s m args below meth c H1 locs1 (cells + mc) (slots + ms) Q (F0 m (pc + 3) ls (rest))) :
    W p l e R s m args below meth c H locs cells slots Q (F0 m pc ls (As.reverse ++ .ref q :: rest)) := by
  obtain ⟨fs, hq⟩ := hq
  have pm : (eo :: (w ++ v)).Perm (v ++ (eo :: w)) := List.perm_append_comm (l₁ := eo :: w) (l₂ := v)
  have hPc : va_P D vwCl v H := hP.mem (fun x hx => pm.mem_iff.mpr (List.mem_append_left _ hx))
  have hDc : va_D A v := (hD.perm pm).left
  have hFc := lw_free hDc hS hA
  refine va_callv (va_runV (As := As) (rest := rest) S9 hM cw ⟨fun a U g mk z => by obtain ⟨q0, q2, qP, qK, qD, qE⟩ := z; exact ⟨q0, q2, qP, va_K.moved (u := U) (U := U.calling g mk a) (Vm.Alike.refl U.vm) qK, qD, qE.same rfl⟩, va_recv hK hPc (ci := 12) (q0 := 0) rfl hq, fun U hU9 hW => ⟨rfl, by rw [hU9], by rw [hU9]; exact hPc, va_K.moved hW.alike hK, hDc.weaken (fun _ _ _ _ => trivial), by rw [hU9]; exact ((hE.kept (fun a h1 h2 => hS.2.1 a h1 h2)).narrow hFc).warm hW⟩⟩ rfl hn hsize rfl hW hdg hf) hS (fun x _ h => hFc x h) hFc (fun u t H1 locs ht hvm hw hB hz1 hk1 hS1 => ?_)
  obtain ⟨hP1, hD1⟩ := hB
  rw [ht] at hP1
  obtain ⟨hP2, hD2⟩ := frameG pm (ws' := eo :: (w ++ u.2.2)) (List.perm_append_comm (l₁ := eo :: w) (l₂ := u.2.2)) hP hD hk1 hFc hP1 hD1
  exact kk u H1 locs hw hP2 hD2 hS1
theorem lawC_l {p : Program} {l : Launch} {e : Env} {R : Room} {s : State} {m : MethodId} {args : Array Value} {below : List Frame} {meth : Method} {c : Code} {H : Heap} {locs : List Loc} {cells slots : Nat} {Q : State → Prop} {cc : ByteArray} {nL : Nat} {Ts : List Cond} {own : String} {pc : Nat} {ls : Array Slot} {A : Nat → Prop} {D : va_G} {τ : List (ClassId × FieldType)} {y : MethodName} {ws : List Cond} {rm : Room} {mc ms n index maxL : Nat} {bytes : ByteArray} {ret : Option FieldType} {q : Nat} {As rest : List Value} {Fc Fs : Nat} {w v : va_W} {eo : Nat × va_E} {post : Int64 → (LT × Nat × Nat × va_W) → Prop} (S9 : CallFix p m c cc nL s args Ts own)
    (hM : Met l y ws rm (va_Pc (.ref q :: As) (fun U => U.heap.size = H.size ∧ va_P D vwCl w U.heap ∧ va_K D vwCl τ U ∧ va_D (fun _ => True) w ∧ CE (va_A w H.size) U U.heap)) (va_Ql post (fun u t => va_P D vwCl u.2.2.2 t.heap ∧ va_D (va_A w H.size) u.2.2.2 ∧ t.heap.size + Fc ≤ H.size + u.2.1 + 1000 ∧ nS H.size t.heap + Fs ≤ u.2.2.1 + 9000) (va_A w H.size)) mc ms (va_A w H.size))
    (cw : CallW R s args own RX11 index y bytes maxL ret ws rm mc ms n) (hq : ∃ fs, w[0]? = some (q, .inr (11, fs))) (hK : va_K D vwCl τ s) (hE : CE A s s.heap) (hA : ∀ q : Nat, s.heap.size ≤ q → A q) (hP : va_P D vwCl (eo :: (w ++ v)) H) (hD : va_D A (eo :: (w ++ v))) (hS : va_S A s.heap H locs)
    (hn : As.length = n) (hsize : ls.size = nL) (hW : 2 * (F0 m pc ls (As.reverse ++ .ref q :: rest)).monitorRoom + (rest.map fun v => v.category).sum ≤ 8) (hdg : decode cc pc = .ok (.invokevirtual index, 3)) (hf : cells + mc ≤ R.cells ∧ slots + ms ≤ R.slots)
    (kk : ∀ (r : Int64) (u : (LT × Nat × Nat × va_W)) (H1 : Heap) (locs1 : List Loc), post r u → va_P D vwCl (eo :: (u.2.2.2 ++ v)) H1 → va_D A (eo :: (u.2.2.2 ++ v)) → va_S A s.heap H1 locs1 → H1.size + Fc ≤ H.size + u.2.1 + 1000 → nS s.heap.size H1 + Fs ≤ nS s.heap.size H + u.2.2.1 + 9000 → W p l e R s m args below meth c H1 locs1 (cells + mc) (slots + ms) Q (F0 m (pc + 3) ls (.long r :: rest))) :
    W p l e R s m args below meth c H locs cells slots Q (F0 m pc ls (As.reverse ++ .ref q :: rest)) := by
  obtain ⟨fs, hq⟩ := hq
  have pm : (eo :: (w ++ v)).Perm (w ++ (eo :: v)) := List.perm_middle.symm
  have hPc : va_P D vwCl w H := hP.mem (fun x hx => pm.mem_iff.mpr (List.mem_append_left _ hx))
  have hDc : va_D A w := (hD.perm pm).left
  have hFc := lw_free hDc hS hA
  refine va_calll (va_runV (As := As) (rest := rest) S9 (Met.sL hM H) cw ⟨fun a U g mk z => by obtain ⟨q0, q1, q2, qP, qK, qD, qE⟩ := z; exact ⟨q0, q1, q2, qP, va_K.moved (u := U) (U := U.calling g mk a) (Vm.Alike.refl U.vm) qK, qD, qE.call⟩, va_recv hK hPc (ci := 11) (q0 := 0) rfl hq, fun U hU9 hW => ⟨rfl, hU9, by rw [hU9], by rw [hU9]; exact hPc, va_K.moved hW.alike hK, hDc.weaken (fun _ _ _ _ => trivial), by rw [hU9]; exact ((hE.kept (fun a h1 h2 => hS.2.1 a h1 h2)).narrow hFc).warm hW⟩⟩ rfl hn hsize rfl hW hdg hf) hS (fun x _ h => hFc x h) hFc (fun r u t H1 locs ht hvm hw hB hz1 hk1 hS1 => ?_)
  obtain ⟨⟨hP1, hD1, hz, hs⟩, hK9⟩ := hB
  rw [ht] at hP1 hz hs hK9
  obtain ⟨hP2, hD2⟩ := frameG pm (ws' := eo :: (u.2.2.2 ++ v)) List.perm_middle.symm hP hD hk1 hFc hP1 hD1
  exact kk r u H1 locs hw hP2 hD2 hS1 hz (by have := hK9.n hS.1; omega)
theorem lawR_l {p : Program} {l : Launch} {e : Env} {R : Room} {s : State} {m : MethodId} {args : Array Value} {below : List Frame} {meth : Method} {c : Code} {H : Heap} {locs : List Loc} {cells slots : Nat} {Q : State → Prop} {cc : ByteArray} {nL : Nat} {Ts : List Cond} {own : String} {pc : Nat} {ls : Array Slot} {A : Nat → Prop} {D : va_G} {τ : List (ClassId × FieldType)} {y : MethodName} {ws : List Cond} {rm : Room} {mc ms n index maxL : Nat} {bytes : ByteArray} {ret : Option FieldType} {q : Nat} {As rest : List Value} {w v : va_W} {eo : Nat × va_E} {post : Int64 → (TT × Int32 × va_W) → Prop} (S9 : CallFix p m c cc nL s args Ts own)
    (hM : Met l y ws rm (va_Pc (.ref q :: As) (fun U => U.heap.size = H.size ∧ va_P D vwCl v U.heap ∧ va_K D vwCl τ U ∧ va_D (fun _ => True) v ∧ StrA (va_A v H.size) U U.heap)) (va_Ql post (fun u t => va_P D vwCl u.2.2 t.heap ∧ va_D (va_A v H.size) u.2.2) (va_A v H.size)) mc ms (va_A v H.size))
    (cw : CallW R s args own RX12 index y bytes maxL ret ws rm mc ms n) (hq : ∃ fs, v[0]? = some (q, .inr (12, fs))) (hK : va_K D vwCl τ s) (hE : StrA A s s.heap) (hA : ∀ q : Nat, s.heap.size ≤ q → A q) (hP : va_P D vwCl (eo :: (w ++ v)) H) (hD : va_D A (eo :: (w ++ v))) (hS : va_S A s.heap H locs)
    (hn : As.length = n) (hsize : ls.size = nL) (hW : 2 * (F0 m pc ls (As.reverse ++ .ref q :: rest)).monitorRoom + (rest.map fun v => v.category).sum ≤ 8) (hdg : decode cc pc = .ok (.invokevirtual index, 3)) (hf : cells + mc ≤ R.cells ∧ slots + ms ≤ R.slots)
    (kk : ∀ (r : Int64) (u : TT × Int32 × va_W) (H1 : Heap) (locs1 : List Loc), post r u → va_P D vwCl (eo :: (w ++ u.2.2)) H1 → va_D A (eo :: (w ++ u.2.2)) → va_S A s.heap H1 locs1 → W p l e R s m args below meth c H1 locs1 (cells + mc) (slots + ms) Q (F0 m (pc + 3) ls (.long r :: rest))) :
    W p l e R s m args below meth c H locs cells slots Q (F0 m pc ls (As.reverse ++ .ref q :: rest)) := by
  obtain ⟨fs, hq⟩ := hq
  have pm : (eo :: (w ++ v)).Perm (v ++ (eo :: w)) := List.perm_append_comm (l₁ := eo :: w) (l₂ := v)
  have hPc : va_P D vwCl v H := hP.mem (fun x hx => pm.mem_iff.mpr (List.mem_append_left _ hx))
  have hDc : va_D A v := (hD.perm pm).left
  have hFc := lw_free hDc hS hA
  refine va_calll (va_runV (As := As) (rest := rest) S9 hM cw ⟨fun a U g mk z => by obtain ⟨q0, q2, qP, qK, qD, qE⟩ := z; exact ⟨q0, q2, qP, va_K.moved (u := U) (U := U.calling g mk a) (Vm.Alike.refl U.vm) qK, qD, qE.same rfl⟩, va_recv hK hPc (ci := 12) (q0 := 0) rfl hq, fun U hU9 hW => ⟨rfl, by rw [hU9], by rw [hU9]; exact hPc, va_K.moved hW.alike hK, hDc.weaken (fun _ _ _ _ => trivial), by rw [hU9]; exact ((hE.kept (fun a h1 h2 => hS.2.1 a h1 h2)).narrow hFc).warm hW⟩⟩ rfl hn hsize rfl hW hdg hf) hS (fun x _ h => hFc x h) hFc (fun r u t H1 locs ht hvm hw hB hz1 hk1 hS1 => ?_)
  obtain ⟨hP1, hD1⟩ := hB
  rw [ht] at hP1
  obtain ⟨hP2, hD2⟩ := frameG pm (ws' := eo :: (w ++ u.2.2)) (List.perm_append_comm (l₁ := eo :: w) (l₂ := u.2.2)) hP hD hk1 hFc hP1 hD1
  exact kk r u H1 locs hw hP2 hD2 hS1
theorem lawX_i {p : Program} {l : Launch} {e : Env} {R : Room} {s : State} {m : MethodId} {args : Array Value} {below : List Frame} {meth : Method} {c : Code} {cells slots : Nat} {Q : State → Prop} {cc : ByteArray} {nL : Nat} {Ts : List Cond} {own : String} {pc : Nat} {ls : Array Slot} {A : Nat → Prop} {D : va_G} {τ : List (ClassId × FieldType)} {y : MethodName} {ws : List Cond} {rm : Room} {mc ms n index maxL : Nat} {bytes : ByteArray} {ret : Option FieldType} {q : Nat} {As rest : List Value} {Fc Fs : Nat} {w : va_W} {eo : Nat × va_E} {post : Int32 → (LT × Nat × Nat × va_W) → Prop} {px : (LT × Nat × Nat × va_W) → Prop} {PE : String → Prop} (S9 : CallFix p m c cc nL s args Ts own)
    (hM : vx_Met l y ws rm (va_Pc (.ref q :: As) (fun U => U.heap.size = s.heap.size ∧ va_P D vwCl w U.heap ∧ va_K D vwCl τ U ∧ va_D (fun _ => True) w ∧ CE (va_A w s.heap.size) U U.heap)) (va_Qi post (fun u t => va_P D vwCl u.2.2.2 t.heap ∧ va_D (va_A w s.heap.size) u.2.2.2 ∧ t.heap.size + Fc ≤ s.heap.size + u.2.1 + 1000 ∧ nS s.heap.size t.heap + Fs ≤ u.2.2.1 + 9000) (va_A w s.heap.size)) (vx_X px (fun E u t => PE E ∧ va_P D vwCl u.2.2.2 t.heap ∧ va_D (va_A w s.heap.size) u.2.2.2 ∧ t.heap.size + Fc ≤ s.heap.size + u.2.1 + 1000 ∧ nS s.heap.size t.heap + Fs ≤ u.2.2.1 + 9000) (va_A w s.heap.size)) mc ms (va_A w s.heap.size))
    (cw : CallW R s args own RX11 index y bytes maxL ret ws rm mc ms n) (hq : ∃ fs, w[0]? = some (q, .inr (11, fs))) (hK : va_K D vwCl τ s) (hE : CE A s s.heap) (hA : ∀ q : Nat, s.heap.size ≤ q → A q) (hP : va_P D vwCl (eo :: w) s.heap) (hD : va_D A (eo :: w))
    (hn : As.length = n) (hsize : ls.size = nL) (hW : 2 * (F0 m pc ls (As.reverse ++ .ref q :: rest)).monitorRoom + (rest.map fun v => v.category).sum ≤ 8) (hdg : decode cc pc = .ok (.invokevirtual index, 3)) (hf : cells + mc ≤ R.cells ∧ slots + ms ≤ R.slots)
    (kx : ∀ (E : String) (ce : Cell) (q9 : Nat) (u : (LT × Nat × Nat × va_W)) (H1 : Heap) (locs1 : List Loc), px u → PE E → va_P D vwCl (eo :: u.2.2.2) H1 → va_D A (eo :: u.2.2.2) → va_S A s.heap H1 locs1 → H1.size + Fc ≤ s.heap.size + u.2.1 + 1000 → nS s.heap.size H1 + Fs ≤ u.2.2.1 + 9000 → H1[q9]? = some ce → ce.vm = .none → s.vm.findClass E = some ce.cls → vx_W p l e R s m args below meth c H1 locs1 (cells + mc) (slots + ms) Q (F0 m pc ls rest) q9)
    (kk : ∀ (r : Int32) (u : (LT × Nat × Nat × va_W)) (H1 : Heap) (locs1 : List Loc), post r u → va_P D vwCl (eo :: u.2.2.2) H1 → va_D A (eo :: u.2.2.2) → va_S A s.heap H1 locs1 → H1.size + Fc ≤ s.heap.size + u.2.1 + 1000 → nS s.heap.size H1 + Fs ≤ u.2.2.1 + 9000 → W p l e R s m args below meth c H1 locs1 (cells + mc) (slots + ms) Q (F0 m (pc + 3) ls (.int r :: rest))) :
    W p l e R s m args below meth c s.heap [] cells slots Q (F0 m pc ls (As.reverse ++ .ref q :: rest)) := by
  obtain ⟨fs, hq⟩ := hq
  have pm : (eo :: w).Perm (w ++ [eo]) := (List.perm_append_singleton eo w).symm
  have hS : va_S A s.heap s.heap [] := va_S.rf
  have hPc : va_P D vwCl w s.heap := hP.mem (fun x hx => pm.mem_iff.mpr (List.mem_append_left _ hx))
  have hDc : va_D A w := (hD.perm pm).left
  have hFc := lw_free hDc hS hA
  refine vx_calli (vx_runV (As := As) (rest := rest) S9 hM cw ⟨fun a U g mk z => by obtain ⟨q0, q2, qP, qK, qD, qE⟩ := z; exact ⟨q0, q2, qP, va_K.moved (u := U) (U := U.calling g mk a) (Vm.Alike.refl U.vm) qK, qD, qE.call⟩, va_recv hK hPc (ci := 11) (q0 := 0) rfl hq, fun U hU9 hW => ⟨rfl, by rw [hU9], by rw [hU9]; exact hPc, va_K.moved hW.alike hK, hDc.weaken (fun _ _ _ _ => trivial), by rw [hU9]; exact (hE.narrow hFc).warm hW⟩⟩ rfl hn hsize rfl hW hdg hf) hS (fun x _ h => hFc x h) hFc (fun x _ h => hFc x h) (fun E ce q9 u t H1 locs1 ht hvm hw hB hz1 hk1 hS1 hc1 hc2 hc3 => ?_) (fun r u t H1 locs1 ht hvm hw hB hz1 hk1 hS1 => ?_)
  · obtain ⟨hPE, hP1, hD1, hz, hs⟩ := hB
    rw [ht] at hP1 hz hs
    obtain ⟨hP2, hD2⟩ := frameG pm (ws' := eo :: u.2.2.2) (List.perm_append_singleton eo u.2.2.2).symm hP hD hk1 hFc hP1 hD1
    exact kx E ce q9 u H1 locs1 hw hPE hP2 hD2 hS1 hz hs hc1 hc2 hc3
  · obtain ⟨hP1, hD1, hz, hs⟩ := hB
    rw [ht] at hP1 hz hs
    obtain ⟨hP2, hD2⟩ := frameG pm (ws' := eo :: u.2.2.2) (List.perm_append_singleton eo u.2.2.2).symm hP hD hk1 hFc hP1 hD1
    exact kk r u H1 locs1 hw hP2 hD2 hS1 hz hs
theorem lawH_i {p : Program} {l : Launch} {e : Env} {R : Room} {s : State} {m : MethodId} {args : Array Value} {below : List Frame} {meth : Method} {c : Code} {H : Heap} {locs : List Loc} {cells slots : Nat} {Q : State → Prop} {cc : ByteArray} {nL : Nat} {Ts : List Cond} {own : String} {pc : Nat} {ls : Array Slot} {A : Nat → Prop} {D : va_G} {τ : List (ClassId × FieldType)} {y : MethodName} {ws : List Cond} {rm : Room} {mc ms n index maxL : Nat} {bytes : ByteArray} {ret : Option FieldType} {As rest : List Value} {Fc Fs : Nat} {w v : va_W} {o : Nat} {kR : ClassId} {g0 : Nat → Int64} {hh : List (Nat × Nat × Nat × Nat)} {post : Int32 → (LT × Nat × Nat × va_W × (Nat → Int64)) → Prop} (S9 : CallFix p m c cc nL s args Ts own)
    (hM : Met l y ws rm (va_Pc As (fun U => U.heap.size = H.size ∧ va_P D vwCl ((o, .inl (kR, 1, .inr (.inl g0))) :: w) U.heap ∧ va_K D vwCl τ U ∧ va_D (fun _ => True) ((o, .inl (kR, 1, .inr (.inl g0))) :: w) ∧ CE (va_A ((o, .inl (kR, 1, .inr (.inl g0))) :: w) H.size) U U.heap ∧ NcE U)) (va_Qi post (fun u t => va_P D vwCl ((o, .inl (kR, 1, .inr (.inl u.2.2.2.2))) :: u.2.2.2.1) t.heap ∧ va_D (va_A ((o, .inl (kR, 1, .inr (.inl g0))) :: w) H.size) ((o, .inl (kR, 1, .inr (.inl u.2.2.2.2))) :: u.2.2.2.1) ∧ t.heap.size + Fc ≤ H.size + u.2.1 + 1000 ∧ nS H.size t.heap + Fs ≤ u.2.2.1 + 9000) (va_A ((o, .inl (kR, 1, .inr (.inl g0))) :: w) H.size)) mc ms (va_A ((o, .inl (kR, 1, .inr (.inl g0))) :: w) H.size))
    (cw : vx_CSW R s args own index y bytes maxL ret hh ws rm mc ms n) (hK : va_K D vwCl τ s) (hE : CE A s s.heap) (hN : NcE s) (hA : ∀ q : Nat, s.heap.size ≤ q → A q) (hP : va_P D vwCl ((o, .inl (kR, 1, .inr (.inl g0))) :: (w ++ v)) H) (hD : va_D A ((o, .inl (kR, 1, .inr (.inl g0))) :: (w ++ v))) (hS : va_S A s.heap H locs)
    (hn : As.length = n) (hsize : ls.size = nL) (hW : 2 * (F0 m pc ls (As.reverse ++ rest)).monitorRoom + (rest.map fun v => v.category).sum ≤ 8) (hdg : decode cc pc = .ok (.invokestatic index, 3)) (hf : cells + mc ≤ R.cells ∧ slots + ms ≤ R.slots)
    (kk : ∀ (r : Int32) (u : (LT × Nat × Nat × va_W × (Nat → Int64))) (H1 : Heap) (locs1 : List Loc), post r u → va_P D vwCl ((o, .inl (kR, 1, .inr (.inl u.2.2.2.2))) :: (u.2.2.2.1 ++ v)) H1 → va_D A ((o, .inl (kR, 1, .inr (.inl u.2.2.2.2))) :: (u.2.2.2.1 ++ v)) → va_S A s.heap H1 locs1 → H1.size + Fc ≤ H.size + u.2.1 + 1000 → nS s.heap.size H1 + Fs ≤ nS s.heap.size H + u.2.2.1 + 9000 → W p l e R s m args below meth c H1 locs1 (cells + mc) (slots + ms) Q (F0 m (pc + 3) ls (.int r :: rest))) :
    W p l e R s m args below meth c H locs cells slots Q (F0 m pc ls (As.reverse ++ rest)) := by
  have pm : ((o, .inl (kR, 1, .inr (.inl g0))) :: (w ++ v) : va_W).Perm (((o, .inl (kR, 1, .inr (.inl g0))) :: w) ++ v) := List.Perm.refl _
  have hPc : va_P D vwCl ((o, .inl (kR, 1, .inr (.inl g0))) :: w) H := hP.mem (fun x hx => pm.mem_iff.mpr (List.mem_append_left _ hx))
  have hDc : va_D A ((o, .inl (kR, 1, .inr (.inl g0))) :: w) := (hD.perm pm).left
  have hFc := lw_free hDc hS hA
  refine va_calli (vx_runSW (As := As) (rest := rest) S9 (Met.sI hM H) cw ⟨fun a U g mk z => by obtain ⟨q0, q1, q2, qP, qK, qD, qE, qN⟩ := z; exact ⟨q0, q1, q2, qP, va_K.moved (u := U) (U := U.calling g mk a) (Vm.Alike.refl U.vm) qK, qD, qE.call, NcE.moved (U := U) (V := U.calling g mk a) (Vm.Alike.refl U.vm) qN⟩, fun U hU9 hW => ⟨rfl, hU9, by rw [hU9], by rw [hU9]; exact hPc, va_K.moved hW.alike hK, hDc.weaken (fun _ _ _ _ => trivial), by rw [hU9]; exact ((hE.kept (fun a h1 h2 => hS.2.1 a h1 h2)).narrow hFc).warm hW, hN.moved hW.alike⟩⟩ rfl hn hsize rfl hW hdg hf) hS (fun x _ h => hFc x h) hFc (fun r u t H1 locs ht hvm hw hB hz1 hk1 hS1 => ?_)
  obtain ⟨⟨hP1, hD1, hz, hs⟩, hK9⟩ := hB
  rw [ht] at hP1 hz hs hK9
  obtain ⟨hP2, hD2⟩ := frameG pm (ws' := (o, .inl (kR, 1, .inr (.inl u.2.2.2.2))) :: (u.2.2.2.1 ++ v)) (List.Perm.refl _) hP hD hk1 hFc hP1 hD1
  exact kk r u H1 locs hw hP2 hD2 hS1 hz (by have := hK9.n hS.1; omega)
theorem updL_0 {g : Nat → Int64} {x : Int64} : vp_updL g (0 : Int32).toNatClampNeg x 0 = x := by
  unfold vp_updL
  exact if_pos (by decide)
/-- two that tell of three ways tell of the same one -/
theorem lw3 {C : Prop} {n m K : Int} {P1 P2 P3 Q1 Q2 Q3 : Prop} (hn : n = m) (h : (¬ C ∧ P1) ∨ ((C ∧ n = K) ∧ P2) ∨ ((C ∧ n < K) ∧ P3)) (h' : (¬ C ∧ Q1) ∨ ((C ∧ m = K) ∧ Q2) ∨ ((C ∧ m < K) ∧ Q3)) : (P1 ∧ Q1) ∨ (P2 ∧ Q2) ∨ (P3 ∧ Q3) := by
  subst hn
  rcases h with ⟨c, a⟩ | ⟨⟨c, e⟩, a⟩ | ⟨⟨c, e⟩, a⟩
  · rcases h' with ⟨c2, a2⟩ | ⟨⟨c2, e2⟩, a2⟩ | ⟨⟨c2, e2⟩, a2⟩
    · exact Or.inl ⟨a, a2⟩
    · exact absurd c2 c
    · exact absurd c2 c
  · rcases h' with ⟨c2, a2⟩ | ⟨⟨c2, e2⟩, a2⟩ | ⟨⟨c2, e2⟩, a2⟩
    · exact absurd c c2
    · exact Or.inr (Or.inl ⟨a, a2⟩)
    · exact absurd e2 (by omega)
  · rcases h' with ⟨c2, a2⟩ | ⟨⟨c2, e2⟩, a2⟩ | ⟨⟨c2, e2⟩, a2⟩
    · exact absurd c c2
    · exact absurd e2 (by omega)
    · exact Or.inr (Or.inr ⟨a, a2⟩)
theorem lw3c {C D : Prop} {P1 P2 P3 Q1 Q2 Q3 : Prop} (h : (¬ C ∧ P1) ∨ ((C ∧ D) ∧ P2) ∨ ((C ∧ ¬ D) ∧ P3)) (h' : (¬ C ∧ Q1) ∨ ((C ∧ D) ∧ Q2) ∨ ((C ∧ ¬ D) ∧ Q3)) : (P1 ∧ Q1) ∨ (P2 ∧ Q2) ∨ (C ∧ P3 ∧ Q3) := by
  rcases h with ⟨c, a⟩ | ⟨⟨c, e⟩, a⟩ | ⟨⟨c, e⟩, a⟩
  · rcases h' with ⟨c2, a2⟩ | ⟨⟨c2, e2⟩, a2⟩ | ⟨⟨c2, e2⟩, a2⟩
    · exact Or.inl ⟨a, a2⟩
    · exact absurd c2 c
    · exact absurd c2 c
  · rcases h' with ⟨c2, a2⟩ | ⟨⟨c2, e2⟩, a2⟩ | ⟨⟨c2, e2⟩, a2⟩
    · exact absurd c c2
    · exact Or.inr (Or.inl ⟨a, a2⟩)
    · exact absurd e e2
  · rcases h' with ⟨c2, a2⟩ | ⟨⟨c2, e2⟩, a2⟩ | ⟨⟨c2, e2⟩, a2⟩
    · exact absurd c c2
    · exact absurd e2 e
    · exact Or.inr (Or.inr ⟨c, a, a2⟩)
theorem lw2 {n m : Int} {P1 P2 Q1 Q2 : Prop} (hn : n = m) (h : (n = 0 ∧ P1) ∨ (0 < n ∧ P2)) (h' : (m = 0 ∧ Q1) ∨ (0 < m ∧ Q2)) : (P1 ∧ Q1) ∨ (P2 ∧ Q2) := by
  subst hn
  rcases h with ⟨c, a⟩ | ⟨c, a⟩
  · rcases h' with ⟨c2, a2⟩ | ⟨c2, a2⟩
    · exact Or.inl ⟨a, a2⟩
    · exact absurd c2 (by omega)
  · rcases h' with ⟨c2, a2⟩ | ⟨c2, a2⟩
    · exact absurd c2 (by omega)
    · exact Or.inr ⟨a, a2⟩
/-- a number of the script -/
theorem lw_arg {p : Program} {l : Launch} {e : Env} {R : Room} {s : State} {m : MethodId} {args : Array Value} {below : List Frame} {meth : Method} {c : Code} {H : Heap} {locs : List Loc} {cells slots : Nat} {Q : State → Prop} {cc : ByteArray} {pc : Nat} {ls : Array Slot} {rest : List Value} {A : Nat → Prop} {b L j : Nat} {xs : Nat → Int32} (hx : p.tables.exec = Jvm.exec) (hb : c.code = cc) (hX : va_X b L xs s s.heap) (hbl : b < s.heap.size) (hbA : ¬ A b) (hS : va_S A s.heap H locs) (hl0 : ls[0]? = some (.val (.ref b))) (hl4 : ls[4]? = some (.val (.int (nI j)))) (k : Nat) {kI : Int} (hj : j + k < L) (hL : L ≤ 384) (hk : Int32.ofInt kI = nI k)
    (d0 : decode cc pc = .ok (.aload_n 0, 1)) (d1 : decode cc (pc + 1) = .ok (.iload 4, 2)) (d3 : decode cc (pc + 1 + 2) = .ok (.iconst kI, 1)) (d4 : decode cc (pc + 1 + 2 + 1) = .ok (.iadd, 1)) (d5 : decode cc (pc + 1 + 2 + 1 + 1) = .ok (.iaload, 1))
    (kk : W p l e R s m args below meth c H locs cells slots Q (F0 m (pc + 1 + 2 + 1 + 1 + 1) ls (.int (xs (j + k)) :: rest))) : W p l e R s m args below meth c H locs cells slots Q (F0 m pc ls rest) := by
  refine lv_aload_n hx hb d0 rfl hl0 ?_
  refine lv_iload hx hb d1 hl4 ?_
  refine lv_iconst (v := nI k) hx hb d3 hk ?_
  refine lv_iadd hx hb d4 ?_
  have e9 : nI j + nI k = nI (j + k) := nI_add j k
  rw [e9]
  have e8 : (nI (j + k)).toNatClampNeg = j + k := nI_clamp (by omega)
  refine va_sld hx hb hX hbl hbA hS (i := nI (j + k)) ?_ d5 ?_
  · rintro (h | h)
    · exact absurd (toI_lt h (nI_toInt (n := j + k) (by omega)) (show (0 : Int32).toInt = 0 by decide)) (by omega)
    · rw [e8] at h; omega
  · rw [e8]; exact kk

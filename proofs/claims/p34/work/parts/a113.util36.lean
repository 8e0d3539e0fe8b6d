theorem lv_ldcwS {p : Program} {l : Launch} {e : Env} {R : Room} {s : State} {m : MethodId} {args : Array Value} {below : List Frame} {meth : Method} {c : Code} {H : Heap} {locs : List Loc} {cells slots : Nat} {Q : State → Prop} {cc : ByteArray} {pc : Nat} {ls : Array Slot} {rest : List Value} (hexec : p.tables.exec = Jvm.exec) (hb : c.code = cc) {own tx : String} {index q : Nat} (hown : s.vm.findClass own = some m.cls) (hZ : vk_R own index tx q s) (hdg : decode cc pc = .ok (.ldc_w index, 3))
    (k : W p l e R s m args below meth c H locs cells slots Q (F0 m (pc + 3) ls (.ref q :: rest))) : W p l e R s m args below meth c H locs cells slots Q (F0 m pc ls rest) := by
  intro T hT X
  obtain ⟨t, a1, b1⟩ := k T hT X
  refine ⟨t, ?_, b1⟩
  obtain ⟨k9, cf, i, a', hk, hcf, hcp, -, hr, hev'⟩ := Cond.stringRef_spec hown hZ.1
  cases hZ.2.symm.trans hev'
  obtain ⟨k', hk', he⟩ := X.warmed.alike.2.2 _ _ hk
  have hr' : k'.resolved[index]? = some (some (.string q)) := by
    rcases X.warmed.entry hk hk' index with h | ⟨h, -⟩
    · rw [h]; exact hr
    · rw [hr] at h; cases h
  have hdg' : decode c.code (F0 m pc ls rest).pc = .ok (.ldc_w index, 3) := by rw [hb]; exact hdg
  jvm_step X.here [hexec, hdg', ldc_w.wp_string (e := e) (s := T) (f := F0 m pc ls rest) X.here.top hk' (by rw [he]; exact hcf) hcp hr']
  exact a1
/-- what the machine's own String asks of its statics -/
def JdkE (A : Nat → Prop) (U : State) (H : Heap) : Prop := va_Z RJ0 "COMPACT_STRINGS" "Z" (.int 1) A U H ∧ va_Zq "jdk/internal/util/Preconditions" "SIOOBE_FORMATTER" "Ljava/util/function/BiFunction;" A U H
theorem JdkE.kept {A : Nat → Prop} {U : State} {H H1 : Heap} (h : JdkE A U H) (hq : ∀ a : Nat, a < H.size → ¬ A a → H1[a]? = H[a]?) : JdkE A U H1 := ⟨h.1.kept hq, h.2.kept hq⟩
theorem JdkE.narrow {A B : Nat → Prop} {U : State} {H : Heap} (h : JdkE A U H) (hAB : ∀ q, B q → A q) : JdkE B U H := ⟨h.1.narrow hAB, h.2.narrow hAB⟩
theorem JdkE.alike {A : Nat → Prop} {U V : State} {H : Heap} (h : JdkE A U H) (hv : U.vm.Alike V.vm) : JdkE A V H := ⟨va_Z.moved hv h.1, va_Zq.moved hv h.2⟩
theorem JdkE.warm {A : Nat → Prop} {s U : State} {H : Heap} (h : JdkE A s H) (hW : s.WarmedH U.vm) : JdkE A U H := h.alike hW.alike
theorem JdkE.same {A : Nat → Prop} {U V : State} {H : Heap} (h : JdkE A U H) (hv : V.vm = U.vm) : JdkE A V H := h.alike (by rw [hv]; exact Vm.Alike.refl U.vm)
/-- a row of bytes -/
def ArrE (v n : Nat) (f : Nat → Int32) (A : Nat → Prop) (U : State) (H : Heap) : Prop := JdkE A U H ∧ va_T .byte v n (fun j => .int (f j)) A U H
theorem ArrE.kept {v n : Nat} {f : Nat → Int32} {A : Nat → Prop} {U : State} {H H1 : Heap} (h : ArrE v n f A U H) (hq : ∀ a : Nat, a < H.size → ¬ A a → H1[a]? = H[a]?) : ArrE v n f A U H1 := ⟨h.1.kept hq, h.2.kept hq⟩
theorem ArrE.narrow {v n : Nat} {f : Nat → Int32} {A B : Nat → Prop} {U : State} {H : Heap} (h : ArrE v n f A U H) (hAB : ∀ q, B q → A q) : ArrE v n f B U H := ⟨h.1.narrow hAB, h.2.narrow hAB⟩
theorem ArrE.alike {v n : Nat} {f : Nat → Int32} {A : Nat → Prop} {U V : State} {H : Heap} (h : ArrE v n f A U H) (hv : U.vm.Alike V.vm) : ArrE v n f A V H := ⟨h.1.alike hv, va_T.moved hv h.2⟩
theorem ArrE.warm {v n : Nat} {f : Nat → Int32} {A : Nat → Prop} {s U : State} {H : Heap} (h : ArrE v n f A s H) (hW : s.WarmedH U.vm) : ArrE v n f A U H := h.alike hW.alike
theorem ArrE.same {v n : Nat} {f : Nat → Int32} {A : Nat → Prop} {U V : State} {H : Heap} (h : ArrE v n f A U H) (hv : V.vm = U.vm) : ArrE v n f A V H := h.alike (by rw [hv]; exact Vm.Alike.refl U.vm)
/-- a text of n letters -/
def StrE (q n : Nat) (f : Nat → Int32) (A : Nat → Prop) (U : State) (H : Heap) : Prop := JdkE A U H ∧ va_O RJ0 q A U H ∧ va_OF RJ0 "coder" "B" (.int 0) q A U H ∧ ∃ v : Nat, va_OF RJ0 "value" "[B" (.ref v) q A U H ∧ va_T .byte v n (fun j => .int (f j)) A U H
theorem StrE.kept {q n : Nat} {f : Nat → Int32} {A : Nat → Prop} {U : State} {H H1 : Heap} (h : StrE q n f A U H) (hq : ∀ a : Nat, a < H.size → ¬ A a → H1[a]? = H[a]?) : StrE q n f A U H1 := ⟨h.1.kept hq, h.2.1.kept hq, h.2.2.1.kept hq, h.2.2.2.imp (fun _ h9 => ⟨h9.1.kept hq, h9.2.kept hq⟩)⟩
theorem StrE.narrow {q n : Nat} {f : Nat → Int32} {A B : Nat → Prop} {U : State} {H : Heap} (h : StrE q n f A U H) (hAB : ∀ q, B q → A q) : StrE q n f B U H := ⟨h.1.narrow hAB, h.2.1.narrow hAB, h.2.2.1.narrow hAB, h.2.2.2.imp (fun _ h9 => ⟨h9.1.narrow hAB, h9.2.narrow hAB⟩)⟩
theorem StrE.alike {q n : Nat} {f : Nat → Int32} {A : Nat → Prop} {U V : State} {H : Heap} (h : StrE q n f A U H) (hv : U.vm.Alike V.vm) : StrE q n f A V H := ⟨h.1.alike hv, va_O.moved hv h.2.1, va_OF.moved hv h.2.2.1, h.2.2.2.imp (fun _ h9 => ⟨va_OF.moved hv h9.1, va_T.moved hv h9.2⟩)⟩
theorem StrE.warm {q n : Nat} {f : Nat → Int32} {A : Nat → Prop} {s U : State} {H : Heap} (h : StrE q n f A s H) (hW : s.WarmedH U.vm) : StrE q n f A U H := h.alike hW.alike
theorem StrE.same {q n : Nat} {f : Nat → Int32} {A : Nat → Prop} {U V : State} {H : Heap} (h : StrE q n f A U H) (hv : V.vm = U.vm) : StrE q n f A V H := h.alike (by rw [hv]; exact Vm.Alike.refl U.vm)
theorem StrE.recv {q n : Nat} {f : Nat → Int32} {A : Nat → Prop} {s : State} {H : Heap} {locs : List Loc} (h : StrE q n f A s s.heap) (hS : va_S A s.heap H locs) : ∃ cell : Cell, H[q]? = some cell ∧ cell.vm.isStatics = false ∧ s.vm.findClass RJ0 = some cell.cls := by
  obtain ⟨cell, h1, h2, h3, -⟩ := h.2.1.kept hS.2.1
  exact ⟨cell, h1, h2, h3⟩
/-- the letters of the two texts -/
def kf (j : Nat) : Int32 := ([115, 101, 116, 32, 112, 97, 114, 97, 109, 32, 118, 97, 114, 32, 119, 104, 111, 108, 101, 32, 102, 114, 111, 109, 32, 116, 111, 32, 114, 111, 119, 32, 111, 114, 32, 105, 102, 32, 97, 110, 100, 32, 110, 111, 116, 32, 105, 110, 32, 115, 117, 109, 32, 100, 105, 102, 102, 101, 114, 101, 110, 116, 32, 109, 105, 110, 32, 109, 97, 120, 32] : List Int32).getD j 0
def tf (j : Nat) : Int32 := ([118, 97, 114, 32, 120, 32, 119, 104, 111, 108, 101, 32, 102, 114, 111, 109, 32, 116, 111, 32, 114, 111, 119, 32, 114, 32, 58, 32, 111, 114, 32, 60, 61, 32, 62, 61, 32, 61, 32, 100, 105, 102, 102, 101, 114, 101, 110, 116, 32, 44, 32, 59, 32, 109, 105, 110, 32, 109, 97, 120, 32, 42, 32] : List Int32).getD j 0
def c16 (x : Int32) : Int32 := ((x &&& 255).toUInt32 % 65536).toInt32
def kl (j : Nat) : Int32 := c16 (kf j)
def nSp : Nat → Nat
  | 0 => 0
  | n + 1 => nSp n + (if kl n = 32 then 1 else 0)
theorem kl_end : ∀ i, i < 71 → kl i ≠ 32 → i + 1 < 71 := by decide +kernel
theorem nSp_lt : ∀ i, i < 72 → nSp i < 16 → i < 71 := by decide +kernel
/-- the reference's two texts -/
def StrA (A : Nat → Prop) (U : State) (H : Heap) : Prop := (∃ q, vk_R RX12 471 "set param var whole from to row or if and not in sum different min max " q U ∧ StrE q 71 kf A U H) ∧ ∃ q, vk_R RX12 950 "var x whole from to row r : or <= >= = different , ; min max * " q U ∧ StrE q 63 tf A U H
theorem StrA.kept {A : Nat → Prop} {U : State} {H H1 : Heap} (h : StrA A U H) (hq : ∀ a : Nat, a < H.size → ¬ A a → H1[a]? = H[a]?) : StrA A U H1 := ⟨h.1.imp (fun _ h9 => ⟨h9.1, h9.2.kept hq⟩), h.2.imp (fun _ h9 => ⟨h9.1, h9.2.kept hq⟩)⟩
theorem StrA.narrow {A B : Nat → Prop} {U : State} {H : Heap} (h : StrA A U H) (hAB : ∀ q, B q → A q) : StrA B U H := ⟨h.1.imp (fun _ h9 => ⟨h9.1, h9.2.narrow hAB⟩), h.2.imp (fun _ h9 => ⟨h9.1, h9.2.narrow hAB⟩)⟩
theorem StrA.warm {A : Nat → Prop} {s U : State} {H : Heap} (h : StrA A s H) (hW : s.WarmedH U.vm) : StrA A U H := ⟨h.1.imp (fun _ h9 => ⟨vk_R.warm hW h9.1, h9.2.warm hW⟩), h.2.imp (fun _ h9 => ⟨vk_R.warm hW h9.1, h9.2.warm hW⟩)⟩
theorem StrA.same {A : Nat → Prop} {U V : State} {H : Heap} (h : StrA A U H) (hv : V.vm = U.vm) : StrA A V H := ⟨h.1.imp (fun _ h9 => ⟨vk_R.same hv h9.1, h9.2.same hv⟩), h.2.imp (fun _ h9 => ⟨vk_R.same hv h9.1, h9.2.same hv⟩)⟩
theorem nar_c (x : Int32) : narrow .char (.int (x.toUInt32 % 65536).toInt32) = .int (x.toUInt32 % 65536).toInt32 := by
  have h : ∀ y : Int32, narrow .char (.int y) = .int (y.toUInt32 % 65536).toInt32 := fun _ => rfl
  rw [h]
  congr 2
  refine UInt32.toNat_inj.mp ?_
  have h1 : ((x.toUInt32 % 65536).toInt32.toUInt32) = x.toUInt32 % 65536 := rfl
  rw [h1, UInt32.toNat_mod, UInt32.toNat_mod]
  exact Nat.mod_mod _ _

section
/-! contracts put to another use: other words, more room, another start and end -/
theorem hs_sub {ws ws' : List Cond} (h : ∀ w ∈ ws, w ∈ ws') {rm rm' : Room} (a : Array Value) (s : State) (hb : (headSpec ws' rm').pre.before a s = true) : (headSpec ws rm).pre.before a s = true :=
  atoms_intro fun w hw => atoms_spec (ws := ws') hb w (h w hw)
theorem room_le {s : State} {pl : Platform} {r r' : Room} (hf : r.frames ≤ r'.frames) (hl : r.locals ≤ r'.locals) (hc : r.cells ≤ r'.cells) (hs : r.slots ≤ r'.slots) (h : s.hasRoom pl r' = true) : s.hasRoom pl r = true := by
  simp only [State.hasRoom, Bool.and_eq_true, decide_eq_true_eq] at h ⊢
  obtain ⟨⟨⟨⟨h1, h2, h3, h4, h5, h6⟩, h7⟩, h8⟩, h9⟩ := h
  exact ⟨⟨⟨⟨by omega, by omega, by omega, by omega, by omega, h6⟩, by omega⟩, by omega⟩, h9⟩
theorem mf_spec {l : Launch} {x : MethodName} {S S' : Spec} {P : Array Value → State → Prop} {K : Program → Env → List Frame → State → Array Value → Prop} {Q : Array Value → State → Outcome → State → Prop}
    (h : MetFree l x S P K Q) (hpre : ∀ a s, S'.pre.before a s = true → S.pre.before a s = true) (hf : S.room.frames ≤ S'.room.frames) (hl : S.room.locals ≤ S'.room.locals) (hc : S.room.cells ≤ S'.room.cells) (hs : S.room.slots ≤ S'.room.slots) : MetFree l x S' P K Q := by
  intro p e ha hcs hk s m args below hfr happ hP hK
  obtain ⟨a1, a2, a3, a4, a5, a6, a7, a8⟩ := (Spec.appliesLoose_iff hfr).mp happ
  exact h p e ha hcs hk s m args below hfr ((Spec.appliesLoose_iff hfr).mpr ⟨a1, a2, a3, a4, a5, a6, room_le hf hl hc hs a7, hpre _ _ a8⟩) hP hK
def rmLe (a b : Room) : Prop := a.frames ≤ b.frames ∧ a.locals ≤ b.locals ∧ a.cells ≤ b.cells ∧ a.slots ≤ b.slots
/-- what came to the heap, by the frame of a call -/
theorem fe_sz {st t : State} {o : Outcome} {L : List Loc} {mc ms : Nat} (h : FrameEnd st o t L mc ms) : t.heap.size ≤ st.heap.size + mc ∧ nS st.heap.size t.heap ≤ ms := ⟨h.2.2.2.2.1, by unfold nS; exact h.2.2.2.2.2.2.1⟩
theorem Met.ad {l : Launch} {y : MethodName} {ws ws' : List Cond} {rm rm' : Room} {Pc Pc' : Array Value → State → Prop} {Qc Qc' : Array Value → State → Outcome → State → Prop} {mc ms mc' ms' : Nat} {fr fr' : Addr → Prop} (h : Met l y ws rm Pc Qc mc ms fr) (hw : ∀ w ∈ ws, w ∈ ws') (hr : rmLe rm rm') (hmc : mc ≤ mc') (hms : ms ≤ ms')
    (hP : ∀ a U, Pc' a U → Pc a U) (hQ : ∀ a st o t, Pc' a st → st.vm.Alike t.vm → t.heap.size ≤ st.heap.size + mc → nS st.heap.size t.heap ≤ ms → Qc a st o t → Qc' a st o t) (hf : ∀ q, fr q → fr' q) : Met l y ws' rm' Pc' Qc' mc' ms' fr' := by
  intro p e h1 h2 h3 s m args below hfr happ hPa hK
  obtain ⟨n, o, q1, q2, q3, q4, L, q5, q6⟩ := mf_spec (S' := headSpec ws' rm') h (hs_sub hw) hr.1 hr.2.1 hr.2.2.1 hr.2.2.2 p e h1 h2 h3 s m args below hfr happ (hP _ _ hPa) hK
  exact ⟨n, o, q1, q2, q3, hQ _ _ _ _ hPa q5.2.1.alike (fe_sz q5).1 (fe_sz q5).2 q4, L, ⟨q5.1, q5.2.1, q5.2.2.mono hmc hms⟩, fun q hq => hf _ (q6 q hq)⟩
theorem vx_Met.ad {l : Launch} {y : MethodName} {ws ws' : List Cond} {rm rm' : Room} {Pc Pc' : Array Value → State → Prop} {Qc Qc' : Array Value → State → Outcome → State → Prop} {XC XC' : String → State → State → Prop} {mc ms mc' ms' : Nat} {fr fr' : Addr → Prop} (h : vx_Met l y ws rm Pc Qc XC mc ms fr) (hw : ∀ w ∈ ws, w ∈ ws') (hr : rmLe rm rm') (hmc : mc ≤ mc') (hms : ms ≤ ms')
    (hP : ∀ a U, Pc' a U → Pc a U) (hQ : ∀ a st o t, Pc' a st → st.vm.Alike t.vm → t.heap.size ≤ st.heap.size + mc → nS st.heap.size t.heap ≤ ms → Qc a st o t → Qc' a st o t)
    (hX : ∀ a E st t, Pc' a st → st.vm.Alike t.vm → t.heap.size ≤ st.heap.size + mc → nS st.heap.size t.heap ≤ ms → XC E st t → XC' E st t) (hf : ∀ q, fr q → fr' q) : vx_Met l y ws' rm' Pc' Qc' XC' mc' ms' fr' := by
  intro p e h1 h2 h3 s m args below hfr happ hPa hK
  obtain ⟨n, o, q1, q2, q3, q4⟩ := mf_spec (S' := headSpec ws' rm') h (hs_sub hw) hr.1 hr.2.1 hr.2.2.1 hr.2.2.2 p e h1 h2 h3 s m args below hfr happ (hP _ _ hPa) hK
  refine ⟨n, o, q1, q2, q3, ?_⟩
  rcases q4 with ⟨q4, L, q5, q6⟩ | ⟨q, q4, E, ce, L, r1, r2, r3, r4, r5, r6, r7⟩
  · exact Or.inl ⟨hQ _ _ _ _ hPa q5.2.1.alike (fe_sz q5).1 (fe_sz q5).2 q4, L, ⟨q5.1, q5.2.1, q5.2.2.mono hmc hms⟩, fun q hq => hf _ (q6 q hq)⟩
  · exact Or.inr ⟨q, q4, E, ce, L, hX _ _ _ _ hPa r5.alike r6.2.2.1 (by unfold nS; exact r6.2.2.2.2.1) r1, r2, r3, r4, r5, r6.mono hmc hms, fun z hz => hf _ (r7 z hz)⟩
theorem vx_Met.of {l : Launch} {y : MethodName} {ws : List Cond} {rm : Room} {Pc : Array Value → State → Prop} {Qc : Array Value → State → Outcome → State → Prop} {mc ms : Nat} {fr : Addr → Prop} (XC : String → State → State → Prop) (h : Met l y ws rm Pc Qc mc ms fr) : vx_Met l y ws rm Pc Qc XC mc ms fr := by
  intro p e h1 h2 h3 s m args below hfr happ hPa hK
  obtain ⟨n, o, q1, q2, q3, q4⟩ := h p e h1 h2 h3 s m args below hfr happ hPa hK
  exact ⟨n, o, q1, q2, q3, Or.inl q4⟩
theorem va_K.cl2 {D : va_G} {cl : List vw_C} {t1 t2 : List (ClassId × FieldType)} {U : State} (h1 : va_K D cl t1 U) (h2 : va_K D cl t2 U) {i j : Nat} {a b : ClassId} {ty : FieldType} (hi : t1[i]? = some (a, ty)) (hj : t2[j]? = some (b, ty)) : a = b := by
  have r1 := (h1.2 i _ hi).2
  have r2 := (h2.2 j _ hj).2
  cases ty with
  | object C =>
    obtain ⟨_, _, _, _, _, e1⟩ := r1
    obtain ⟨_, _, _, _, _, e2⟩ := r2
    exact Option.some.inj (e1.symm.trans e2)
  | _ => exact Option.some.inj ((show U.vm.findClass _ = some a from r1).symm.trans r2)
/-- the frame of a call, seen from a larger world -/
theorem frA {A : Nat → Prop} {D : va_G} {cl : List vw_C} {ws ws' X X' R : va_W} {st t : State} (p1 : ws.Perm (X ++ R)) (p2 : ws'.Perm (X' ++ R)) (hP : va_P D cl ws st.heap) (hD : va_D A ws) (hF : va_F (va_A X st.heap.size) st t) (hP1 : va_P D cl X' t.heap) (hD1 : va_D (va_A X st.heap.size) X') : va_P D cl ws' t.heap ∧ va_D (va_A ws st.heap.size) ws' :=
  frameG p1 p2 hP (hD.self (sz := st.heap.size)) (fun q h1 h2 => hF.2 q h1 h2) (by
    rintro q (⟨k, e, h⟩ | h)
    · obtain ⟨i, hi⟩ := List.getElem?_of_mem (p1.mem_iff.mpr (List.mem_append_left _ (List.mem_of_getElem? h)))
      exact Or.inl ⟨i, e, hi⟩
    · exact Or.inr h) hP1 hD1
theorem frF {ws X R : va_W} {st t : State} (p1 : ws.Perm (X ++ R)) (hF : va_F (va_A X st.heap.size) st t) : va_F (va_A ws st.heap.size) st t := ⟨hF.1, fun q h1 h2 => hF.2 q h1 (fun h3 => h2 (by
    rcases h3 with ⟨k, e, h⟩ | h
    · obtain ⟨i, hi⟩ := List.getElem?_of_mem (p1.mem_iff.mpr (List.mem_append_left _ (List.mem_of_getElem? h)))
      exact Or.inl ⟨i, e, hi⟩
    · exact Or.inr h))⟩
theorem frS {ws X R : va_W} {sz : Nat} (p1 : ws.Perm (X ++ R)) : ∀ q, va_A X sz q → va_A ws sz q := by
  rintro q (⟨k, e, h⟩ | h)
  · obtain ⟨i, hi⟩ := List.getElem?_of_mem (p1.mem_iff.mpr (List.mem_append_left _ (List.mem_of_getElem? h)))
    exact Or.inl ⟨i, e, hi⟩
  · exact Or.inr h
theorem zr_r {lo hi : Int} (h1 : lo ≤ 0) (h2 : 0 ≤ hi) : ∀ q : Nat, lo ≤ ((fun _ : Nat => (0 : Int32)) q).toInt ∧ ((fun _ : Nat => (0 : Int32)) q).toInt ≤ hi := fun _ => ⟨h1, h2⟩
end
section
theorem dX8_init_0 : decode cX8_init 0 = .ok (.aload_n 0, 1) := dk_42 (by decide +kernel)
theorem dX8_init_1 : decode cX8_init 1 = .ok (.invokespecial 3, 3) := dk_183 (by decide +kernel)
theorem dX8_init_4 : decode cX8_init 4 = .ok (.aload_n 0, 1) := dk_42 (by decide +kernel)
theorem dX8_init_5 : decode cX8_init 5 = .ok (.bipush 14, 2) := dk_16 (by decide +kernel)
theorem dX8_init_7 : decode cX8_init 7 = .ok (.newarray .long, 2) := by decide +kernel
theorem dX8_init_9 : decode cX8_init 9 = .ok (.putfield 9, 3) := dk_181 (by decide +kernel)
theorem dX8_init_12 : decode cX8_init 12 = .ok (.return_, 1) := dk_177 (by decide +kernel)
def wsPX8_init : List Cond := .code yX8_init cX8_init 1 none :: ([.methodLink RX8 3 objectInit, .instanceMethod objectInit, .code objectInit ⟨#[0xb1]⟩ 1 none, .arrayClass .long, .fieldLink RX8 9 "OptimaWorks$Whole" "limb" "[J"] ++ wsX80)
theorem iwsPX8_init_in8 : ∀ w ∈ wsX80, w ∈ wsPX8_init := fun _ h => List.mem_cons_of_mem _ (List.mem_append_right _ h)
set_option maxHeartbeats 4000000 in
set_option maxRecDepth 100000 in
/-- Whole() -/
theorem p_X8_init (l : Launch) (dC : Nat → ClassId) (dI : Nat → Nat → Nat) (h0 : Nat) (sz : Nat) : Met l yX8_init wsPX8_init ({ frames := 1, cells := 1, slots := 14, locals := 12 }) (va_Pc [.ref h0] (fun U => U.heap.size = sz ∧ va_P (dC, dI) vwCl [(h0, .inr (8, [.null, .int 0, .int 0]))] U.heap ∧ va_K (dC, dI) vwCl [] U ∧ va_D (fun _ => True) [(h0, .inr (8, [.null, .int 0, .int 0]))])) (va_Qv (fun (u : (Nat) × (ClassId)) => True) (fun (u : (Nat) × (ClassId)) t => va_P (dC, dI) vwCl [(h0, .inr (8, [.ref (u.1), .int 0, .int 0])), ((u.1), .inl ((u.2), 14, .inr (.inl (fun _ => 0))))] t.heap ∧ va_K (dC, dI) vwCl [((u.2), .long)] t ∧ va_D (va_A [(h0, .inr (8, [.null, .int 0, .int 0]))] sz) [(h0, .inr (8, [.ref (u.1), .int 0, .int 0])), ((u.1), .inl ((u.2), 14, .inr (.inl (fun _ => 0))))]) (va_A [(h0, .inr (8, [.null, .int 0, .int 0]))] sz)) 1 14 (va_A [(h0, .inr (8, [.null, .int 0, .int 0]))] sz) := by
  refine Met.ofW (cc := cX8_init) (maxL := 1) (ret := none) (by decide) rfl ?_
  intro p e s m args below meth c s₁ B hml hv
  obtain ⟨rfl, hsz, hP, hK, hD0⟩ := hv
  have hx := B.exec
  have hb := B.bytes
  have hr := B.returns
  have hts := atoms_spec (ws := wsPX8_init) B.pre
  have hown : s.vm.findClass RX8 = some m.cls := findClass_of_methodNamed B.named
  have hlocks := B.notSynchronized
  have hin : meth.name = "<init>" := (name_of_methodNamed B.named B.method).1
  subst hsz
  have hD := hD0.self (sz := s.heap.size)
  generalize hAe : va_A [(h0, .inr (8, [.null, .int 0, .int 0]))] s.heap.size = A at hD ⊢
  have hA : ∀ q : Nat, s.heap.size ≤ q → A q := fun q h => by rw [← hAe]; exact Or.inr h
  have hS : va_S A s.heap s.heap [] := va_S.rf
  have hP : va_P (dC, dI) vwCl [(h0, .inr (8, [.null, .int 0, .int 0]))] s.heap := hP
  have hl := lv_entry ([.ref h0]) (n := 1) (Nat.le_of_ble_eq_true rfl)
  rw [lg_entry_eq]
  generalize (lg_sl ([.ref h0]) ++ List.replicate (1 - (lg_sl ([.ref h0])).length) Slot.unset).toArray = ls at hl ⊢
  have hl : lv_has ls 1 [(0, .ref h0)] := hl
  refine lv_aload_n hx hb dX8_init_0 rfl (lv_at hl 0 rfl) ?_
  refine W.objInit hx hb hown (hts (.methodLink RX8 3 objectInit) (by decide +kernel)) (hts (.instanceMethod objectInit) (by decide +kernel)) (hts (.code objectInit ⟨#[0xb1]⟩ 1 none) (by decide +kernel)) rfl (by rw [hml]; exact hl.1) rfl dX8_init_1 (by decide +kernel) (Nat.le_of_ble_eq_true rfl) ?_
  refine W.eq (g2 := F0 m 4 ls []) rfl ?_
  refine lv_aload_n hx hb dX8_init_4 rfl (lv_at hl 0 rfl) ?_
  refine lv_bipush (v := 14) hx hb dX8_init_5 (by decide) ?_
  refine va_newa (atype := .long) (ty := .long) (N' := 14) (a0 := (14, .inr (.inl (fun _ => 0)))) hx hb (hts (.arrayClass .long) (by decide +kernel)) rfl hK hP hD hS hA (fun _ => rfl) (by decide) (by decide) (by decide +kernel) (by decide +kernel) (by decide +kernel) dX8_init_7 (fun q7 k7 H hK hP hD hS => ?_)
  have hP : va_P (dC, dI) vwCl [(h0, .inr (8, [.null, .int 0, .int 0])), (q7, .inl (k7, 14, .inr (.inl (fun _ => 0))))] H := hP
  have hD : va_D A [(h0, .inr (8, [.null, .int 0, .int 0])), (q7, .inl (k7, 14, .inr (.inl (fun _ => 0))))] := hD
  have hK : va_K (dC, dI) vwCl [(k7, .long)] s := hK
  refine W.widen (k := 1) (n := 14) (by decide +kernel) (by decide +kernel) ?_
  refine va_putF (D := (dC, dI)) (ci := 8) (v := .ref q7) (ty := .array .long) (C := RX8) (T := TX8) (N := 3) hx hb hts iwsPX8_init_in8 tyX8 tyX8_ok nmX8 hown hK hP hD hS 0 rfl rfl 0 (by decide) (hts (.fieldLink RX8 9 "OptimaWorks$Whole" "limb" "[J") (by decide +kernel)) (fun _ h9 => h9) rfl hin rfl (by decide +kernel) rfl rfl (Nat.le_of_ble_eq_true rfl) dX8_init_9 (fun H locs hP hD hS => ?_)
  have hP : va_P (dC, dI) vwCl [(h0, .inr (8, [.ref q7, .int 0, .int 0])), (q7, .inl (k7, 14, .inr (.inl (fun _ => 0))))] H := hP
  have hD : va_D A [(h0, .inr (8, [.ref q7, .int 0, .int 0])), (q7, .inl (k7, 14, .inr (.inl (fun _ => 0))))] := hD
  refine W.widen (k := 1) (n := 14) (by decide +kernel) (by decide +kernel) ?_
  exact W.vret hx hb hr (fun t ht hW => ⟨⟨(q7, k7), rfl, trivial, by rw [ht]; exact hP.sub [0, 1] rfl, va_K.moved hW.alike (hK.sub [0] rfl), hD.sub [0, 1] (by decide) rfl⟩, hS.F ht⟩) hS.2.2 dX8_init_12
theorem dX10_init_0 : decode cX10_init 0 = .ok (.aload_n 0, 1) := dk_42 (by decide +kernel)
theorem dX10_init_1 : decode cX10_init 1 = .ok (.invokespecial 5, 3) := dk_183 (by decide +kernel)
theorem dX10_init_4 : decode cX10_init 4 = .ok (.aload_n 0, 1) := dk_42 (by decide +kernel)
theorem dX10_init_5 : decode cX10_init 5 = .ok (.bipush 40, 2) := dk_16 (by decide +kernel)
theorem dX10_init_7 : decode cX10_init 7 = .ok (.newarray .long, 2) := by decide +kernel
theorem dX10_init_9 : decode cX10_init 9 = .ok (.putfield 13, 3) := dk_181 (by decide +kernel)
theorem dX10_init_12 : decode cX10_init 12 = .ok (.aload_n 0, 1) := dk_42 (by decide +kernel)
theorem dX10_init_13 : decode cX10_init 13 = .ok (.bipush 40, 2) := dk_16 (by decide +kernel)
theorem dX10_init_15 : decode cX10_init 15 = .ok (.newarray .int, 2) := by decide +kernel
theorem dX10_init_17 : decode cX10_init 17 = .ok (.putfield 17, 3) := dk_181 (by decide +kernel)
theorem dX10_init_20 : decode cX10_init 20 = .ok (.aload_n 0, 1) := dk_42 (by decide +kernel)
theorem dX10_init_21 : decode cX10_init 21 = .ok (.bipush 40, 2) := dk_16 (by decide +kernel)
theorem dX10_init_23 : decode cX10_init 23 = .ok (.newarray .int, 2) := by decide +kernel
theorem dX10_init_25 : decode cX10_init 25 = .ok (.putfield 21, 3) := dk_181 (by decide +kernel)
theorem dX10_init_28 : decode cX10_init 28 = .ok (.aload_n 0, 1) := dk_42 (by decide +kernel)
theorem dX10_init_29 : decode cX10_init 29 = .ok (.bipush 40, 2) := dk_16 (by decide +kernel)
theorem dX10_init_31 : decode cX10_init 31 = .ok (.newarray .int, 2) := by decide +kernel
theorem dX10_init_33 : decode cX10_init 33 = .ok (.putfield 24, 3) := dk_181 (by decide +kernel)
theorem dX10_init_36 : decode cX10_init 36 = .ok (.aload_n 0, 1) := dk_42 (by decide +kernel)
theorem dX10_init_37 : decode cX10_init 37 = .ok (.bipush 40, 2) := dk_16 (by decide +kernel)
theorem dX10_init_39 : decode cX10_init 39 = .ok (.newarray .int, 2) := by decide +kernel
theorem dX10_init_41 : decode cX10_init 41 = .ok (.putfield 27, 3) := dk_181 (by decide +kernel)
theorem dX10_init_44 : decode cX10_init 44 = .ok (.aload_n 0, 1) := dk_42 (by decide +kernel)
theorem dX10_init_45 : decode cX10_init 45 = .ok (.iconst 0, 1) := dk_3 (by decide +kernel)
theorem dX10_init_46 : decode cX10_init 46 = .ok (.newarray .int, 2) := by decide +kernel
theorem dX10_init_48 : decode cX10_init 48 = .ok (.putfield 30, 3) := dk_181 (by decide +kernel)
theorem dX10_init_51 : decode cX10_init 51 = .ok (.aload_n 0, 1) := dk_42 (by decide +kernel)
theorem dX10_init_52 : decode cX10_init 52 = .ok (.iconst 0, 1) := dk_3 (by decide +kernel)
theorem dX10_init_53 : decode cX10_init 53 = .ok (.newarray .int, 2) := by decide +kernel
theorem dX10_init_55 : decode cX10_init 55 = .ok (.putfield 33, 3) := dk_181 (by decide +kernel)
theorem dX10_init_58 : decode cX10_init 58 = .ok (.aload_n 0, 1) := dk_42 (by decide +kernel)
theorem dX10_init_59 : decode cX10_init 59 = .ok (.sipush 360, 3) := dk_17 (by decide +kernel)
theorem dX10_init_62 : decode cX10_init 62 = .ok (.newarray .long, 2) := by decide +kernel
theorem dX10_init_64 : decode cX10_init 64 = .ok (.putfield 36, 3) := dk_181 (by decide +kernel)
theorem dX10_init_67 : decode cX10_init 67 = .ok (.aload_n 0, 1) := dk_42 (by decide +kernel)
theorem dX10_init_68 : decode cX10_init 68 = .ok (.sipush 360, 3) := dk_17 (by decide +kernel)
theorem dX10_init_71 : decode cX10_init 71 = .ok (.newarray .long, 2) := by decide +kernel
theorem dX10_init_73 : decode cX10_init 73 = .ok (.putfield 39, 3) := dk_181 (by decide +kernel)
theorem dX10_init_76 : decode cX10_init 76 = .ok (.aload_n 0, 1) := dk_42 (by decide +kernel)
theorem dX10_init_77 : decode cX10_init 77 = .ok (.bipush 64, 2) := dk_16 (by decide +kernel)
theorem dX10_init_79 : decode cX10_init 79 = .ok (.newarray .int, 2) := by decide +kernel
theorem dX10_init_81 : decode cX10_init 81 = .ok (.putfield 44, 3) := dk_181 (by decide +kernel)
theorem dX10_init_84 : decode cX10_init 84 = .ok (.aload_n 0, 1) := dk_42 (by decide +kernel)
theorem dX10_init_85 : decode cX10_init 85 = .ok (.aload_n 1, 1) := dk_43 (by decide +kernel)
theorem dX10_init_86 : decode cX10_init 86 = .ok (.putfield 47, 3) := dk_181 (by decide +kernel)
theorem dX10_init_89 : decode cX10_init 89 = .ok (.aload_n 0, 1) := dk_42 (by decide +kernel)
theorem dX10_init_90 : decode cX10_init 90 = .ok (.aload_n 2, 1) := dk_44 (by decide +kernel)
theorem dX10_init_91 : decode cX10_init 91 = .ok (.putfield 51, 3) := dk_181 (by decide +kernel)
theorem dX10_init_94 : decode cX10_init 94 = .ok (.return_, 1) := dk_177 (by decide +kernel)
def wsPX10_init : List Cond := .code yX10_init cX10_init 3 none :: ([.methodLink RX10 5 objectInit, .instanceMethod objectInit, .code objectInit ⟨#[0xb1]⟩ 1 none, .arrayClass .long, .fieldLink RX10 13 "OptimaWorks$Worker" "key" "[J", .arrayClass .int, .fieldLink RX10 17 "OptimaWorks$Worker" "kind" "[I", .fieldLink RX10 21 "OptimaWorks$Worker" "one" "[I", .fieldLink RX10 24 "OptimaWorks$Worker" "two" "[I", .fieldLink RX10 27 "OptimaWorks$Worker" "base" "[I", .fieldLink RX10 30 "OptimaWorks$Worker" "paramOver" "[I", .fieldLink RX10 33 "OptimaWorks$Worker" "paramUnder" "[I", .fieldLink RX10 36 "OptimaWorks$Worker" "over" "[J", .fieldLink RX10 39 "OptimaWorks$Worker" "under" "[J", .fieldLink RX10 44 "OptimaWorks$Worker" "bound" "[I", .fieldLink RX10 47 "OptimaWorks$Worker" "words" "LOptimaWorks$Words;", .fieldLink RX10 51 "OptimaWorks$Worker" "model" "LOptimaWorks$Model;"] ++ wsX100)
theorem iwsPX10_init_in10 : ∀ w ∈ wsX100, w ∈ wsPX10_init := fun _ h => List.mem_cons_of_mem _ (List.mem_append_right _ h)
theorem hm_p_X10_init_0 : (.arrayClass .long : Cond) ∈ wsPX10_init := by decide +kernel
theorem hm_p_X10_init_1 : (.arrayClass .int : Cond) ∈ wsPX10_init := by decide +kernel
set_option maxHeartbeats 4000000 in
set_option maxRecDepth 100000 in
/-- Worker(words, model) -/
theorem p_X10_init (l : Launch) (dC : Nat → ClassId) (dI : Nat → Nat → Nat) (h0 : Nat) (wa : Nat) (ma : Nat) (sz : Nat) : Met l yX10_init wsPX10_init ({ frames := 1, cells := 10, slots := 984, locals := 12 }) (va_Pc [.ref h0, .ref wa, .ref ma] (fun U => U.heap.size = sz ∧ va_P (dC, dI) vwCl [(h0, .inr (10, [.null, .null, .null, .int 0, .null, .null, .null, .null, .null, .int 0, .null, .null, .null, .null, .null, .int 0, .int 0, .int 0, .long 0, .long 0]))] U.heap ∧ va_K (dC, dI) vwCl [] U ∧ va_D (fun _ => True) [(h0, .inr (10, [.null, .null, .null, .int 0, .null, .null, .null, .null, .null, .int 0, .null, .null, .null, .null, .null, .int 0, .int 0, .int 0, .long 0, .long 0]))])) (va_Qv (fun (u : (Nat) × (Nat) × (Nat) × (Nat) × (Nat) × (Nat) × (Nat) × (Nat) × (Nat) × (Nat) × (ClassId) × (ClassId) × (ClassId) × (ClassId) × (ClassId) × (ClassId) × (ClassId) × (ClassId) × (ClassId) × (ClassId)) => True) (fun (u : (Nat) × (Nat) × (Nat) × (Nat) × (Nat) × (Nat) × (Nat) × (Nat) × (Nat) × (Nat) × (ClassId) × (ClassId) × (ClassId) × (ClassId) × (ClassId) × (ClassId) × (ClassId) × (ClassId) × (ClassId) × (ClassId)) t => va_P (dC, dI) vwCl [(h0, .inr (10, [.ref wa, .ref ma, .null, .int 0, .ref (u.1), .ref (u.2.1), .ref (u.2.2.1), .ref (u.2.2.2.1), .ref (u.2.2.2.2.1), .int 0, .ref (u.2.2.2.2.2.1), .ref (u.2.2.2.2.2.2.1), .ref (u.2.2.2.2.2.2.2.1), .ref (u.2.2.2.2.2.2.2.2.1), .ref (u.2.2.2.2.2.2.2.2.2.1), .int 0, .int 0, .int 0, .long 0, .long 0])), ((u.1), .inl ((u.2.2.2.2.2.2.2.2.2.2.1), 40, .inr (.inl (fun _ => 0)))), ((u.2.1), .inl ((u.2.2.2.2.2.2.2.2.2.2.2.1), 40, .inl (fun _ => 0))), ((u.2.2.1), .inl ((u.2.2.2.2.2.2.2.2.2.2.2.2.1), 40, .inl (fun _ => 0))), ((u.2.2.2.1), .inl ((u.2.2.2.2.2.2.2.2.2.2.2.2.2.1), 40, .inl (fun _ => 0))), ((u.2.2.2.2.1), .inl ((u.2.2.2.2.2.2.2.2.2.2.2.2.2.2.1), 40, .inl (fun _ => 0))), ((u.2.2.2.2.2.1), .inl ((u.2.2.2.2.2.2.2.2.2.2.2.2.2.2.2.1), 0, .inl (fun _ => 0))), ((u.2.2.2.2.2.2.1), .inl ((u.2.2.2.2.2.2.2.2.2.2.2.2.2.2.2.2.1), 0, .inl (fun _ => 0))), ((u.2.2.2.2.2.2.2.1), .inl ((u.2.2.2.2.2.2.2.2.2.2.2.2.2.2.2.2.2.1), 360, .inr (.inl (fun _ => 0)))), ((u.2.2.2.2.2.2.2.2.1), .inl ((u.2.2.2.2.2.2.2.2.2.2.2.2.2.2.2.2.2.2.1), 360, .inr (.inl (fun _ => 0)))), ((u.2.2.2.2.2.2.2.2.2.1), .inl ((u.2.2.2.2.2.2.2.2.2.2.2.2.2.2.2.2.2.2.2), 64, .inl (fun _ => 0)))] t.heap ∧ va_K (dC, dI) vwCl [((u.2.2.2.2.2.2.2.2.2.2.1), .long), ((u.2.2.2.2.2.2.2.2.2.2.2.1), .int), ((u.2.2.2.2.2.2.2.2.2.2.2.2.1), .int), ((u.2.2.2.2.2.2.2.2.2.2.2.2.2.1), .int), ((u.2.2.2.2.2.2.2.2.2.2.2.2.2.2.1), .int), ((u.2.2.2.2.2.2.2.2.2.2.2.2.2.2.2.1), .int), ((u.2.2.2.2.2.2.2.2.2.2.2.2.2.2.2.2.1), .int), ((u.2.2.2.2.2.2.2.2.2.2.2.2.2.2.2.2.2.1), .long), ((u.2.2.2.2.2.2.2.2.2.2.2.2.2.2.2.2.2.2.1), .long), ((u.2.2.2.2.2.2.2.2.2.2.2.2.2.2.2.2.2.2.2), .int)] t ∧ va_D (va_A [(h0, .inr (10, [.null, .null, .null, .int 0, .null, .null, .null, .null, .null, .int 0, .null, .null, .null, .null, .null, .int 0, .int 0, .int 0, .long 0, .long 0]))] sz) [(h0, .inr (10, [.ref wa, .ref ma, .null, .int 0, .ref (u.1), .ref (u.2.1), .ref (u.2.2.1), .ref (u.2.2.2.1), .ref (u.2.2.2.2.1), .int 0, .ref (u.2.2.2.2.2.1), .ref (u.2.2.2.2.2.2.1), .ref (u.2.2.2.2.2.2.2.1), .ref (u.2.2.2.2.2.2.2.2.1), .ref (u.2.2.2.2.2.2.2.2.2.1), .int 0, .int 0, .int 0, .long 0, .long 0])), ((u.1), .inl ((u.2.2.2.2.2.2.2.2.2.2.1), 40, .inr (.inl (fun _ => 0)))), ((u.2.1), .inl ((u.2.2.2.2.2.2.2.2.2.2.2.1), 40, .inl (fun _ => 0))), ((u.2.2.1), .inl ((u.2.2.2.2.2.2.2.2.2.2.2.2.1), 40, .inl (fun _ => 0))), ((u.2.2.2.1), .inl ((u.2.2.2.2.2.2.2.2.2.2.2.2.2.1), 40, .inl (fun _ => 0))), ((u.2.2.2.2.1), .inl ((u.2.2.2.2.2.2.2.2.2.2.2.2.2.2.1), 40, .inl (fun _ => 0))), ((u.2.2.2.2.2.1), .inl ((u.2.2.2.2.2.2.2.2.2.2.2.2.2.2.2.1), 0, .inl (fun _ => 0))), ((u.2.2.2.2.2.2.1), .inl ((u.2.2.2.2.2.2.2.2.2.2.2.2.2.2.2.2.1), 0, .inl (fun _ => 0))), ((u.2.2.2.2.2.2.2.1), .inl ((u.2.2.2.2.2.2.2.2.2.2.2.2.2.2.2.2.2.1), 360, .inr (.inl (fun _ => 0)))), ((u.2.2.2.2.2.2.2.2.1), .inl ((u.2.2.2.2.2.2.2.2.2.2.2.2.2.2.2.2.2.2.1), 360, .inr (.inl (fun _ => 0)))), ((u.2.2.2.2.2.2.2.2.2.1), .inl ((u.2.2.2.2.2.2.2.2.2.2.2.2.2.2.2.2.2.2.2), 64, .inl (fun _ => 0)))]) (va_A [(h0, .inr (10, [.null, .null, .null, .int 0, .null, .null, .null, .null, .null, .int 0, .null, .null, .null, .null, .null, .int 0, .int 0, .int 0, .long 0, .long 0]))] sz)) 10 984 (va_A [(h0, .inr (10, [.null, .null, .null, .int 0, .null, .null, .null, .null, .null, .int 0, .null, .null, .null, .null, .null, .int 0, .int 0, .int 0, .long 0, .long 0]))] sz) := by
  refine Met.ofW (cc := cX10_init) (maxL := 3) (ret := none) (by decide) rfl ?_
  intro p e s m args below meth c s₁ B hml hv
  obtain ⟨rfl, hsz, hP, hK, hD0⟩ := hv
  have hx := B.exec
  have hb := B.bytes
  have hr := B.returns
  have hts := atoms_spec (ws := wsPX10_init) B.pre
  have hown : s.vm.findClass RX10 = some m.cls := findClass_of_methodNamed B.named
  have hlocks := B.notSynchronized
  have hin : meth.name = "<init>" := (name_of_methodNamed B.named B.method).1
  subst hsz
  have hD := hD0.self (sz := s.heap.size)
  generalize hAe : va_A [(h0, .inr (10, [.null, .null, .null, .int 0, .null, .null, .null, .null, .null, .int 0, .null, .null, .null, .null, .null, .int 0, .int 0, .int 0, .long 0, .long 0]))] s.heap.size = A at hD ⊢
  have hA : ∀ q : Nat, s.heap.size ≤ q → A q := fun q h => by rw [← hAe]; exact Or.inr h
  have hS : va_S A s.heap s.heap [] := va_S.rf
  have hP : va_P (dC, dI) vwCl [(h0, .inr (10, [.null, .null, .null, .int 0, .null, .null, .null, .null, .null, .int 0, .null, .null, .null, .null, .null, .int 0, .int 0, .int 0, .long 0, .long 0]))] s.heap := hP
  have hl := lv_entry ([.ref h0, .ref wa, .ref ma]) (n := 3) (Nat.le_of_ble_eq_true rfl)
  rw [lg_entry_eq]
  generalize (lg_sl ([.ref h0, .ref wa, .ref ma]) ++ List.replicate (3 - (lg_sl ([.ref h0, .ref wa, .ref ma])).length) Slot.unset).toArray = ls at hl ⊢
  have hl : lv_has ls 3 [(0, .ref h0), (1, .ref wa), (2, .ref ma)] := hl
  refine lv_aload_n hx hb dX10_init_0 rfl (lv_at hl 0 rfl) ?_
  refine W.objInit hx hb hown (hts (.methodLink RX10 5 objectInit) (by decide +kernel)) (hts (.instanceMethod objectInit) (by decide +kernel)) (hts (.code objectInit ⟨#[0xb1]⟩ 1 none) (by decide +kernel)) rfl (by rw [hml]; exact hl.1) rfl dX10_init_1 (by decide +kernel) (Nat.le_of_ble_eq_true rfl) ?_
  refine W.eq (g2 := F0 m 4 ls []) rfl ?_
  refine lv_aload_n hx hb dX10_init_4 rfl (lv_at hl 0 rfl) ?_
  refine lv_bipush (v := 40) hx hb dX10_init_5 (by decide) ?_
  refine va_newa (atype := .long) (ty := .long) (N' := 40) (a0 := (40, .inr (.inl (fun _ => 0)))) hx hb (hts _ hm_p_X10_init_0) rfl hK hP hD hS hA (fun _ => rfl) (by decide) (by decide) (by decide +kernel) (by decide +kernel) (by decide +kernel) dX10_init_7 (fun q7 k7 H hK hP hD hS => ?_)
  have hP : va_P (dC, dI) vwCl [(h0, .inr (10, [.null, .null, .null, .int 0, .null, .null, .null, .null, .null, .int 0, .null, .null, .null, .null, .null, .int 0, .int 0, .int 0, .long 0, .long 0])), (q7, .inl (k7, 40, .inr (.inl (fun _ => 0))))] H := hP
  have hD : va_D A [(h0, .inr (10, [.null, .null, .null, .int 0, .null, .null, .null, .null, .null, .int 0, .null, .null, .null, .null, .null, .int 0, .int 0, .int 0, .long 0, .long 0])), (q7, .inl (k7, 40, .inr (.inl (fun _ => 0))))] := hD
  have hK : va_K (dC, dI) vwCl [(k7, .long)] s := hK
  refine W.widen (k := 1) (n := 40) (by decide +kernel) (by decide +kernel) ?_
  refine va_putF (D := (dC, dI)) (ci := 10) (v := .ref q7) (ty := .array .long) (C := RX10) (T := TX10) (N := 20) hx hb hts iwsPX10_init_in10 tyX10 tyX10_ok nmX10 hown hK hP hD hS 0 rfl rfl 4 (by decide) (hts (.fieldLink RX10 13 "OptimaWorks$Worker" "key" "[J") (by decide +kernel)) (fun _ h9 => h9) rfl hin rfl (by decide +kernel) rfl rfl (Nat.le_of_ble_eq_true rfl) dX10_init_9 (fun H locs hP hD hS => ?_)
  have hP : va_P (dC, dI) vwCl [(h0, .inr (10, [.null, .null, .null, .int 0, .ref q7, .null, .null, .null, .null, .int 0, .null, .null, .null, .null, .null, .int 0, .int 0, .int 0, .long 0, .long 0])), (q7, .inl (k7, 40, .inr (.inl (fun _ => 0))))] H := hP
  have hD : va_D A [(h0, .inr (10, [.null, .null, .null, .int 0, .ref q7, .null, .null, .null, .null, .int 0, .null, .null, .null, .null, .null, .int 0, .int 0, .int 0, .long 0, .long 0])), (q7, .inl (k7, 40, .inr (.inl (fun _ => 0))))] := hD
  refine lv_aload_n hx hb dX10_init_12 rfl (lv_at hl 0 rfl) ?_
  refine lv_bipush (v := 40) hx hb dX10_init_13 (by decide) ?_
  refine va_newa (atype := .int) (ty := .int) (N' := 40) (a0 := (40, .inl (fun _ => 0))) hx hb (hts _ hm_p_X10_init_1) rfl hK hP hD hS hA (fun _ => rfl) (by decide) (by decide) (by decide +kernel) (by decide +kernel) (by decide +kernel) dX10_init_15 (fun q15 k15 H hK hP hD hS => ?_)
  have hP : va_P (dC, dI) vwCl [(h0, .inr (10, [.null, .null, .null, .int 0, .ref q7, .null, .null, .null, .null, .int 0, .null, .null, .null, .null, .null, .int 0, .int 0, .int 0, .long 0, .long 0])), (q7, .inl (k7, 40, .inr (.inl (fun _ => 0)))), (q15, .inl (k15, 40, .inl (fun _ => 0)))] H := hP
  have hD : va_D A [(h0, .inr (10, [.null, .null, .null, .int 0, .ref q7, .null, .null, .null, .null, .int 0, .null, .null, .null, .null, .null, .int 0, .int 0, .int 0, .long 0, .long 0])), (q7, .inl (k7, 40, .inr (.inl (fun _ => 0)))), (q15, .inl (k15, 40, .inl (fun _ => 0)))] := hD
  have hK : va_K (dC, dI) vwCl [(k7, .long), (k15, .int)] s := hK
  refine W.widen (k := 2) (n := 80) (by decide +kernel) (by decide +kernel) ?_
  refine va_putF (D := (dC, dI)) (ci := 10) (v := .ref q15) (ty := .array .int) (C := RX10) (T := TX10) (N := 20) hx hb hts iwsPX10_init_in10 tyX10 tyX10_ok nmX10 hown hK hP hD hS 0 rfl rfl 5 (by decide) (hts (.fieldLink RX10 17 "OptimaWorks$Worker" "kind" "[I") (by decide +kernel)) (fun _ h9 => h9) rfl hin rfl (by decide +kernel) rfl rfl (Nat.le_of_ble_eq_true rfl) dX10_init_17 (fun H locs hP hD hS => ?_)
  have hP : va_P (dC, dI) vwCl [(h0, .inr (10, [.null, .null, .null, .int 0, .ref q7, .ref q15, .null, .null, .null, .int 0, .null, .null, .null, .null, .null, .int 0, .int 0, .int 0, .long 0, .long 0])), (q7, .inl (k7, 40, .inr (.inl (fun _ => 0)))), (q15, .inl (k15, 40, .inl (fun _ => 0)))] H := hP
  have hD : va_D A [(h0, .inr (10, [.null, .null, .null, .int 0, .ref q7, .ref q15, .null, .null, .null, .int 0, .null, .null, .null, .null, .null, .int 0, .int 0, .int 0, .long 0, .long 0])), (q7, .inl (k7, 40, .inr (.inl (fun _ => 0)))), (q15, .inl (k15, 40, .inl (fun _ => 0)))] := hD
  refine lv_aload_n hx hb dX10_init_20 rfl (lv_at hl 0 rfl) ?_
  refine lv_bipush (v := 40) hx hb dX10_init_21 (by decide) ?_
  refine va_newa (atype := .int) (ty := .int) (N' := 40) (a0 := (40, .inl (fun _ => 0))) hx hb (hts _ hm_p_X10_init_1) rfl hK hP hD hS hA (fun _ => rfl) (by decide) (by decide) (by decide +kernel) (by decide +kernel) (by decide +kernel) dX10_init_23 (fun q23 k23 H hK hP hD hS => ?_)
  have hP : va_P (dC, dI) vwCl [(h0, .inr (10, [.null, .null, .null, .int 0, .ref q7, .ref q15, .null, .null, .null, .int 0, .null, .null, .null, .null, .null, .int 0, .int 0, .int 0, .long 0, .long 0])), (q7, .inl (k7, 40, .inr (.inl (fun _ => 0)))), (q15, .inl (k15, 40, .inl (fun _ => 0))), (q23, .inl (k23, 40, .inl (fun _ => 0)))] H := hP
  have hD : va_D A [(h0, .inr (10, [.null, .null, .null, .int 0, .ref q7, .ref q15, .null, .null, .null, .int 0, .null, .null, .null, .null, .null, .int 0, .int 0, .int 0, .long 0, .long 0])), (q7, .inl (k7, 40, .inr (.inl (fun _ => 0)))), (q15, .inl (k15, 40, .inl (fun _ => 0))), (q23, .inl (k23, 40, .inl (fun _ => 0)))] := hD
  have hK : va_K (dC, dI) vwCl [(k7, .long), (k15, .int), (k23, .int)] s := hK
  refine W.widen (k := 3) (n := 120) (by decide +kernel) (by decide +kernel) ?_
  refine va_putF (D := (dC, dI)) (ci := 10) (v := .ref q23) (ty := .array .int) (C := RX10) (T := TX10) (N := 20) hx hb hts iwsPX10_init_in10 tyX10 tyX10_ok nmX10 hown hK hP hD hS 0 rfl rfl 6 (by decide) (hts (.fieldLink RX10 21 "OptimaWorks$Worker" "one" "[I") (by decide +kernel)) (fun _ h9 => h9) rfl hin rfl (by decide +kernel) rfl rfl (Nat.le_of_ble_eq_true rfl) dX10_init_25 (fun H locs hP hD hS => ?_)
  have hP : va_P (dC, dI) vwCl [(h0, .inr (10, [.null, .null, .null, .int 0, .ref q7, .ref q15, .ref q23, .null, .null, .int 0, .null, .null, .null, .null, .null, .int 0, .int 0, .int 0, .long 0, .long 0])), (q7, .inl (k7, 40, .inr (.inl (fun _ => 0)))), (q15, .inl (k15, 40, .inl (fun _ => 0))), (q23, .inl (k23, 40, .inl (fun _ => 0)))] H := hP
  have hD : va_D A [(h0, .inr (10, [.null, .null, .null, .int 0, .ref q7, .ref q15, .ref q23, .null, .null, .int 0, .null, .null, .null, .null, .null, .int 0, .int 0, .int 0, .long 0, .long 0])), (q7, .inl (k7, 40, .inr (.inl (fun _ => 0)))), (q15, .inl (k15, 40, .inl (fun _ => 0))), (q23, .inl (k23, 40, .inl (fun _ => 0)))] := hD
  refine lv_aload_n hx hb dX10_init_28 rfl (lv_at hl 0 rfl) ?_
  refine lv_bipush (v := 40) hx hb dX10_init_29 (by decide) ?_
  refine va_newa (atype := .int) (ty := .int) (N' := 40) (a0 := (40, .inl (fun _ => 0))) hx hb (hts _ hm_p_X10_init_1) rfl hK hP hD hS hA (fun _ => rfl) (by decide) (by decide) (by decide +kernel) (by decide +kernel) (by decide +kernel) dX10_init_31 (fun q31 k31 H hK hP hD hS => ?_)
  have hP : va_P (dC, dI) vwCl [(h0, .inr (10, [.null, .null, .null, .int 0, .ref q7, .ref q15, .ref q23, .null, .null, .int 0, .null, .null, .null, .null, .null, .int 0, .int 0, .int 0, .long 0, .long 0])), (q7, .inl (k7, 40, .inr (.inl (fun _ => 0)))), (q15, .inl (k15, 40, .inl (fun _ => 0))), (q23, .inl (k23, 40, .inl (fun _ => 0))), (q31, .inl (k31, 40, .inl (fun _ => 0)))] H := hP
  have hD : va_D A [(h0, .inr (10, [.null, .null, .null, .int 0, .ref q7, .ref q15, .ref q23, .null, .null, .int 0, .null, .null, .null, .null, .null, .int 0, .int 0, .int 0, .long 0, .long 0])), (q7, .inl (k7, 40, .inr (.inl (fun _ => 0)))), (q15, .inl (k15, 40, .inl (fun _ => 0))), (q23, .inl (k23, 40, .inl (fun _ => 0))), (q31, .inl (k31, 40, .inl (fun _ => 0)))] := hD
  have hK : va_K (dC, dI) vwCl [(k7, .long), (k15, .int), (k23, .int), (k31, .int)] s := hK
  refine W.widen (k := 4) (n := 160) (by decide +kernel) (by decide +kernel) ?_
  refine va_putF (D := (dC, dI)) (ci := 10) (v := .ref q31) (ty := .array .int) (C := RX10) (T := TX10) (N := 20) hx hb hts iwsPX10_init_in10 tyX10 tyX10_ok nmX10 hown hK hP hD hS 0 rfl rfl 7 (by decide) (hts (.fieldLink RX10 24 "OptimaWorks$Worker" "two" "[I") (by decide +kernel)) (fun _ h9 => h9) rfl hin rfl (by decide +kernel) rfl rfl (Nat.le_of_ble_eq_true rfl) dX10_init_33 (fun H locs hP hD hS => ?_)
  have hP : va_P (dC, dI) vwCl [(h0, .inr (10, [.null, .null, .null, .int 0, .ref q7, .ref q15, .ref q23, .ref q31, .null, .int 0, .null, .null, .null, .null, .null, .int 0, .int 0, .int 0, .long 0, .long 0])), (q7, .inl (k7, 40, .inr (.inl (fun _ => 0)))), (q15, .inl (k15, 40, .inl (fun _ => 0))), (q23, .inl (k23, 40, .inl (fun _ => 0))), (q31, .inl (k31, 40, .inl (fun _ => 0)))] H := hP
  have hD : va_D A [(h0, .inr (10, [.null, .null, .null, .int 0, .ref q7, .ref q15, .ref q23, .ref q31, .null, .int 0, .null, .null, .null, .null, .null, .int 0, .int 0, .int 0, .long 0, .long 0])), (q7, .inl (k7, 40, .inr (.inl (fun _ => 0)))), (q15, .inl (k15, 40, .inl (fun _ => 0))), (q23, .inl (k23, 40, .inl (fun _ => 0))), (q31, .inl (k31, 40, .inl (fun _ => 0)))] := hD
  refine lv_aload_n hx hb dX10_init_36 rfl (lv_at hl 0 rfl) ?_
  refine lv_bipush (v := 40) hx hb dX10_init_37 (by decide) ?_
  refine va_newa (atype := .int) (ty := .int) (N' := 40) (a0 := (40, .inl (fun _ => 0))) hx hb (hts _ hm_p_X10_init_1) rfl hK hP hD hS hA (fun _ => rfl) (by decide) (by decide) (by decide +kernel) (by decide +kernel) (by decide +kernel) dX10_init_39 (fun q39 k39 H hK hP hD hS => ?_)
  have hP : va_P (dC, dI) vwCl [(h0, .inr (10, [.null, .null, .null, .int 0, .ref q7, .ref q15, .ref q23, .ref q31, .null, .int 0, .null, .null, .null, .null, .null, .int 0, .int 0, .int 0, .long 0, .long 0])), (q7, .inl (k7, 40, .inr (.inl (fun _ => 0)))), (q15, .inl (k15, 40, .inl (fun _ => 0))), (q23, .inl (k23, 40, .inl (fun _ => 0))), (q31, .inl (k31, 40, .inl (fun _ => 0))), (q39, .inl (k39, 40, .inl (fun _ => 0)))] H := hP
  have hD : va_D A [(h0, .inr (10, [.null, .null, .null, .int 0, .ref q7, .ref q15, .ref q23, .ref q31, .null, .int 0, .null, .null, .null, .null, .null, .int 0, .int 0, .int 0, .long 0, .long 0])), (q7, .inl (k7, 40, .inr (.inl (fun _ => 0)))), (q15, .inl (k15, 40, .inl (fun _ => 0))), (q23, .inl (k23, 40, .inl (fun _ => 0))), (q31, .inl (k31, 40, .inl (fun _ => 0))), (q39, .inl (k39, 40, .inl (fun _ => 0)))] := hD
  have hK : va_K (dC, dI) vwCl [(k7, .long), (k15, .int), (k23, .int), (k31, .int), (k39, .int)] s := hK
  refine W.widen (k := 5) (n := 200) (by decide +kernel) (by decide +kernel) ?_
  refine va_putF (D := (dC, dI)) (ci := 10) (v := .ref q39) (ty := .array .int) (C := RX10) (T := TX10) (N := 20) hx hb hts iwsPX10_init_in10 tyX10 tyX10_ok nmX10 hown hK hP hD hS 0 rfl rfl 8 (by decide) (hts (.fieldLink RX10 27 "OptimaWorks$Worker" "base" "[I") (by decide +kernel)) (fun _ h9 => h9) rfl hin rfl (by decide +kernel) rfl rfl (Nat.le_of_ble_eq_true rfl) dX10_init_41 (fun H locs hP hD hS => ?_)
  have hP : va_P (dC, dI) vwCl [(h0, .inr (10, [.null, .null, .null, .int 0, .ref q7, .ref q15, .ref q23, .ref q31, .ref q39, .int 0, .null, .null, .null, .null, .null, .int 0, .int 0, .int 0, .long 0, .long 0])), (q7, .inl (k7, 40, .inr (.inl (fun _ => 0)))), (q15, .inl (k15, 40, .inl (fun _ => 0))), (q23, .inl (k23, 40, .inl (fun _ => 0))), (q31, .inl (k31, 40, .inl (fun _ => 0))), (q39, .inl (k39, 40, .inl (fun _ => 0)))] H := hP
  have hD : va_D A [(h0, .inr (10, [.null, .null, .null, .int 0, .ref q7, .ref q15, .ref q23, .ref q31, .ref q39, .int 0, .null, .null, .null, .null, .null, .int 0, .int 0, .int 0, .long 0, .long 0])), (q7, .inl (k7, 40, .inr (.inl (fun _ => 0)))), (q15, .inl (k15, 40, .inl (fun _ => 0))), (q23, .inl (k23, 40, .inl (fun _ => 0))), (q31, .inl (k31, 40, .inl (fun _ => 0))), (q39, .inl (k39, 40, .inl (fun _ => 0)))] := hD
  refine lv_aload_n hx hb dX10_init_44 rfl (lv_at hl 0 rfl) ?_
  refine lv_iconst (v := 0) hx hb dX10_init_45 (by decide) ?_
  refine va_newa (atype := .int) (ty := .int) (N' := 0) (a0 := (0, .inl (fun _ => 0))) hx hb (hts _ hm_p_X10_init_1) rfl hK hP hD hS hA (fun _ => rfl) (by decide) (by decide) (by decide +kernel) (by decide +kernel) (by decide +kernel) dX10_init_46 (fun q46 k46 H hK hP hD hS => ?_)
  have hP : va_P (dC, dI) vwCl [(h0, .inr (10, [.null, .null, .null, .int 0, .ref q7, .ref q15, .ref q23, .ref q31, .ref q39, .int 0, .null, .null, .null, .null, .null, .int 0, .int 0, .int 0, .long 0, .long 0])), (q7, .inl (k7, 40, .inr (.inl (fun _ => 0)))), (q15, .inl (k15, 40, .inl (fun _ => 0))), (q23, .inl (k23, 40, .inl (fun _ => 0))), (q31, .inl (k31, 40, .inl (fun _ => 0))), (q39, .inl (k39, 40, .inl (fun _ => 0))), (q46, .inl (k46, 0, .inl (fun _ => 0)))] H := hP
  have hD : va_D A [(h0, .inr (10, [.null, .null, .null, .int 0, .ref q7, .ref q15, .ref q23, .ref q31, .ref q39, .int 0, .null, .null, .null, .null, .null, .int 0, .int 0, .int 0, .long 0, .long 0])), (q7, .inl (k7, 40, .inr (.inl (fun _ => 0)))), (q15, .inl (k15, 40, .inl (fun _ => 0))), (q23, .inl (k23, 40, .inl (fun _ => 0))), (q31, .inl (k31, 40, .inl (fun _ => 0))), (q39, .inl (k39, 40, .inl (fun _ => 0))), (q46, .inl (k46, 0, .inl (fun _ => 0)))] := hD
  have hK : va_K (dC, dI) vwCl [(k7, .long), (k15, .int), (k23, .int), (k31, .int), (k39, .int), (k46, .int)] s := hK
  refine W.widen (k := 6) (n := 200) (by decide +kernel) (by decide +kernel) ?_
  refine va_put (D := (dC, dI)) (ci := 10) (v := .ref q46) (ty := .array .int) (C := RX10) (T := TX10) (N := 20) hx hb hts iwsPX10_init_in10 tyX10 tyX10_ok nmX10 hown hK hP hD hS 0 rfl rfl 10 (by decide) (hts (.fieldLink RX10 30 "OptimaWorks$Worker" "paramOver" "[I") (by decide +kernel)) (fun _ h9 => h9) rfl (by decide +kernel) rfl rfl (Nat.le_of_ble_eq_true rfl) dX10_init_48 (fun H locs hP hD hS => ?_)
  have hP : va_P (dC, dI) vwCl [(h0, .inr (10, [.null, .null, .null, .int 0, .ref q7, .ref q15, .ref q23, .ref q31, .ref q39, .int 0, .ref q46, .null, .null, .null, .null, .int 0, .int 0, .int 0, .long 0, .long 0])), (q7, .inl (k7, 40, .inr (.inl (fun _ => 0)))), (q15, .inl (k15, 40, .inl (fun _ => 0))), (q23, .inl (k23, 40, .inl (fun _ => 0))), (q31, .inl (k31, 40, .inl (fun _ => 0))), (q39, .inl (k39, 40, .inl (fun _ => 0))), (q46, .inl (k46, 0, .inl (fun _ => 0)))] H := hP
  have hD : va_D A [(h0, .inr (10, [.null, .null, .null, .int 0, .ref q7, .ref q15, .ref q23, .ref q31, .ref q39, .int 0, .ref q46, .null, .null, .null, .null, .int 0, .int 0, .int 0, .long 0, .long 0])), (q7, .inl (k7, 40, .inr (.inl (fun _ => 0)))), (q15, .inl (k15, 40, .inl (fun _ => 0))), (q23, .inl (k23, 40, .inl (fun _ => 0))), (q31, .inl (k31, 40, .inl (fun _ => 0))), (q39, .inl (k39, 40, .inl (fun _ => 0))), (q46, .inl (k46, 0, .inl (fun _ => 0)))] := hD
  refine lv_aload_n hx hb dX10_init_51 rfl (lv_at hl 0 rfl) ?_
  refine lv_iconst (v := 0) hx hb dX10_init_52 (by decide) ?_
  refine va_newa (atype := .int) (ty := .int) (N' := 0) (a0 := (0, .inl (fun _ => 0))) hx hb (hts _ hm_p_X10_init_1) rfl hK hP hD hS hA (fun _ => rfl) (by decide) (by decide) (by decide +kernel) (by decide +kernel) (by decide +kernel) dX10_init_53 (fun q53 k53 H hK hP hD hS => ?_)
  have hP : va_P (dC, dI) vwCl [(h0, .inr (10, [.null, .null, .null, .int 0, .ref q7, .ref q15, .ref q23, .ref q31, .ref q39, .int 0, .ref q46, .null, .null, .null, .null, .int 0, .int 0, .int 0, .long 0, .long 0])), (q7, .inl (k7, 40, .inr (.inl (fun _ => 0)))), (q15, .inl (k15, 40, .inl (fun _ => 0))), (q23, .inl (k23, 40, .inl (fun _ => 0))), (q31, .inl (k31, 40, .inl (fun _ => 0))), (q39, .inl (k39, 40, .inl (fun _ => 0))), (q46, .inl (k46, 0, .inl (fun _ => 0))), (q53, .inl (k53, 0, .inl (fun _ => 0)))] H := hP
  have hD : va_D A [(h0, .inr (10, [.null, .null, .null, .int 0, .ref q7, .ref q15, .ref q23, .ref q31, .ref q39, .int 0, .ref q46, .null, .null, .null, .null, .int 0, .int 0, .int 0, .long 0, .long 0])), (q7, .inl (k7, 40, .inr (.inl (fun _ => 0)))), (q15, .inl (k15, 40, .inl (fun _ => 0))), (q23, .inl (k23, 40, .inl (fun _ => 0))), (q31, .inl (k31, 40, .inl (fun _ => 0))), (q39, .inl (k39, 40, .inl (fun _ => 0))), (q46, .inl (k46, 0, .inl (fun _ => 0))), (q53, .inl (k53, 0, .inl (fun _ => 0)))] := hD
  have hK : va_K (dC, dI) vwCl [(k7, .long), (k15, .int), (k23, .int), (k31, .int), (k39, .int), (k46, .int), (k53, .int)] s := hK
  refine W.widen (k := 7) (n := 200) (by decide +kernel) (by decide +kernel) ?_
  refine va_put (D := (dC, dI)) (ci := 10) (v := .ref q53) (ty := .array .int) (C := RX10) (T := TX10) (N := 20) hx hb hts iwsPX10_init_in10 tyX10 tyX10_ok nmX10 hown hK hP hD hS 0 rfl rfl 11 (by decide) (hts (.fieldLink RX10 33 "OptimaWorks$Worker" "paramUnder" "[I") (by decide +kernel)) (fun _ h9 => h9) rfl (by decide +kernel) rfl rfl (Nat.le_of_ble_eq_true rfl) dX10_init_55 (fun H locs hP hD hS => ?_)
  have hP : va_P (dC, dI) vwCl [(h0, .inr (10, [.null, .null, .null, .int 0, .ref q7, .ref q15, .ref q23, .ref q31, .ref q39, .int 0, .ref q46, .ref q53, .null, .null, .null, .int 0, .int 0, .int 0, .long 0, .long 0])), (q7, .inl (k7, 40, .inr (.inl (fun _ => 0)))), (q15, .inl (k15, 40, .inl (fun _ => 0))), (q23, .inl (k23, 40, .inl (fun _ => 0))), (q31, .inl (k31, 40, .inl (fun _ => 0))), (q39, .inl (k39, 40, .inl (fun _ => 0))), (q46, .inl (k46, 0, .inl (fun _ => 0))), (q53, .inl (k53, 0, .inl (fun _ => 0)))] H := hP
  have hD : va_D A [(h0, .inr (10, [.null, .null, .null, .int 0, .ref q7, .ref q15, .ref q23, .ref q31, .ref q39, .int 0, .ref q46, .ref q53, .null, .null, .null, .int 0, .int 0, .int 0, .long 0, .long 0])), (q7, .inl (k7, 40, .inr (.inl (fun _ => 0)))), (q15, .inl (k15, 40, .inl (fun _ => 0))), (q23, .inl (k23, 40, .inl (fun _ => 0))), (q31, .inl (k31, 40, .inl (fun _ => 0))), (q39, .inl (k39, 40, .inl (fun _ => 0))), (q46, .inl (k46, 0, .inl (fun _ => 0))), (q53, .inl (k53, 0, .inl (fun _ => 0)))] := hD
  refine lv_aload_n hx hb dX10_init_58 rfl (lv_at hl 0 rfl) ?_
  refine lv_sipush (v := 360) hx hb dX10_init_59 (by decide) ?_
  refine va_newa (atype := .long) (ty := .long) (N' := 360) (a0 := (360, .inr (.inl (fun _ => 0)))) hx hb (hts _ hm_p_X10_init_0) rfl hK hP hD hS hA (fun _ => rfl) (by decide) (by decide) (by decide +kernel) (by decide +kernel) (by decide +kernel) dX10_init_62 (fun q62 k62 H hK hP hD hS => ?_)
  have hP : va_P (dC, dI) vwCl [(h0, .inr (10, [.null, .null, .null, .int 0, .ref q7, .ref q15, .ref q23, .ref q31, .ref q39, .int 0, .ref q46, .ref q53, .null, .null, .null, .int 0, .int 0, .int 0, .long 0, .long 0])), (q7, .inl (k7, 40, .inr (.inl (fun _ => 0)))), (q15, .inl (k15, 40, .inl (fun _ => 0))), (q23, .inl (k23, 40, .inl (fun _ => 0))), (q31, .inl (k31, 40, .inl (fun _ => 0))), (q39, .inl (k39, 40, .inl (fun _ => 0))), (q46, .inl (k46, 0, .inl (fun _ => 0))), (q53, .inl (k53, 0, .inl (fun _ => 0))), (q62, .inl (k62, 360, .inr (.inl (fun _ => 0))))] H := hP
  have hD : va_D A [(h0, .inr (10, [.null, .null, .null, .int 0, .ref q7, .ref q15, .ref q23, .ref q31, .ref q39, .int 0, .ref q46, .ref q53, .null, .null, .null, .int 0, .int 0, .int 0, .long 0, .long 0])), (q7, .inl (k7, 40, .inr (.inl (fun _ => 0)))), (q15, .inl (k15, 40, .inl (fun _ => 0))), (q23, .inl (k23, 40, .inl (fun _ => 0))), (q31, .inl (k31, 40, .inl (fun _ => 0))), (q39, .inl (k39, 40, .inl (fun _ => 0))), (q46, .inl (k46, 0, .inl (fun _ => 0))), (q53, .inl (k53, 0, .inl (fun _ => 0))), (q62, .inl (k62, 360, .inr (.inl (fun _ => 0))))] := hD
  have hK : va_K (dC, dI) vwCl [(k7, .long), (k15, .int), (k23, .int), (k31, .int), (k39, .int), (k46, .int), (k53, .int), (k62, .long)] s := hK
  refine W.widen (k := 8) (n := 560) (by decide +kernel) (by decide +kernel) ?_
  refine va_putF (D := (dC, dI)) (ci := 10) (v := .ref q62) (ty := .array .long) (C := RX10) (T := TX10) (N := 20) hx hb hts iwsPX10_init_in10 tyX10 tyX10_ok nmX10 hown hK hP hD hS 0 rfl rfl 12 (by decide) (hts (.fieldLink RX10 36 "OptimaWorks$Worker" "over" "[J") (by decide +kernel)) (fun _ h9 => h9) rfl hin rfl (by decide +kernel) rfl rfl (Nat.le_of_ble_eq_true rfl) dX10_init_64 (fun H locs hP hD hS => ?_)
  have hP : va_P (dC, dI) vwCl [(h0, .inr (10, [.null, .null, .null, .int 0, .ref q7, .ref q15, .ref q23, .ref q31, .ref q39, .int 0, .ref q46, .ref q53, .ref q62, .null, .null, .int 0, .int 0, .int 0, .long 0, .long 0])), (q7, .inl (k7, 40, .inr (.inl (fun _ => 0)))), (q15, .inl (k15, 40, .inl (fun _ => 0))), (q23, .inl (k23, 40, .inl (fun _ => 0))), (q31, .inl (k31, 40, .inl (fun _ => 0))), (q39, .inl (k39, 40, .inl (fun _ => 0))), (q46, .inl (k46, 0, .inl (fun _ => 0))), (q53, .inl (k53, 0, .inl (fun _ => 0))), (q62, .inl (k62, 360, .inr (.inl (fun _ => 0))))] H := hP
  have hD : va_D A [(h0, .inr (10, [.null, .null, .null, .int 0, .ref q7, .ref q15, .ref q23, .ref q31, .ref q39, .int 0, .ref q46, .ref q53, .ref q62, .null, .null, .int 0, .int 0, .int 0, .long 0, .long 0])), (q7, .inl (k7, 40, .inr (.inl (fun _ => 0)))), (q15, .inl (k15, 40, .inl (fun _ => 0))), (q23, .inl (k23, 40, .inl (fun _ => 0))), (q31, .inl (k31, 40, .inl (fun _ => 0))), (q39, .inl (k39, 40, .inl (fun _ => 0))), (q46, .inl (k46, 0, .inl (fun _ => 0))), (q53, .inl (k53, 0, .inl (fun _ => 0))), (q62, .inl (k62, 360, .inr (.inl (fun _ => 0))))] := hD
  refine lv_aload_n hx hb dX10_init_67 rfl (lv_at hl 0 rfl) ?_
  refine lv_sipush (v := 360) hx hb dX10_init_68 (by decide) ?_
  refine va_newa (atype := .long) (ty := .long) (N' := 360) (a0 := (360, .inr (.inl (fun _ => 0)))) hx hb (hts _ hm_p_X10_init_0) rfl hK hP hD hS hA (fun _ => rfl) (by decide) (by decide) (by decide +kernel) (by decide +kernel) (by decide +kernel) dX10_init_71 (fun q71 k71 H hK hP hD hS => ?_)
  have hP : va_P (dC, dI) vwCl [(h0, .inr (10, [.null, .null, .null, .int 0, .ref q7, .ref q15, .ref q23, .ref q31, .ref q39, .int 0, .ref q46, .ref q53, .ref q62, .null, .null, .int 0, .int 0, .int 0, .long 0, .long 0])), (q7, .inl (k7, 40, .inr (.inl (fun _ => 0)))), (q15, .inl (k15, 40, .inl (fun _ => 0))), (q23, .inl (k23, 40, .inl (fun _ => 0))), (q31, .inl (k31, 40, .inl (fun _ => 0))), (q39, .inl (k39, 40, .inl (fun _ => 0))), (q46, .inl (k46, 0, .inl (fun _ => 0))), (q53, .inl (k53, 0, .inl (fun _ => 0))), (q62, .inl (k62, 360, .inr (.inl (fun _ => 0)))), (q71, .inl (k71, 360, .inr (.inl (fun _ => 0))))] H := hP
  have hD : va_D A [(h0, .inr (10, [.null, .null, .null, .int 0, .ref q7, .ref q15, .ref q23, .ref q31, .ref q39, .int 0, .ref q46, .ref q53, .ref q62, .null, .null, .int 0, .int 0, .int 0, .long 0, .long 0])), (q7, .inl (k7, 40, .inr (.inl (fun _ => 0)))), (q15, .inl (k15, 40, .inl (fun _ => 0))), (q23, .inl (k23, 40, .inl (fun _ => 0))), (q31, .inl (k31, 40, .inl (fun _ => 0))), (q39, .inl (k39, 40, .inl (fun _ => 0))), (q46, .inl (k46, 0, .inl (fun _ => 0))), (q53, .inl (k53, 0, .inl (fun _ => 0))), (q62, .inl (k62, 360, .inr (.inl (fun _ => 0)))), (q71, .inl (k71, 360, .inr (.inl (fun _ => 0))))] := hD
  have hK : va_K (dC, dI) vwCl [(k7, .long), (k15, .int), (k23, .int), (k31, .int), (k39, .int), (k46, .int), (k53, .int), (k62, .long), (k71, .long)] s := hK
  refine W.widen (k := 9) (n := 920) (by decide +kernel) (by decide +kernel) ?_
  refine va_putF (D := (dC, dI)) (ci := 10) (v := .ref q71) (ty := .array .long) (C := RX10) (T := TX10) (N := 20) hx hb hts iwsPX10_init_in10 tyX10 tyX10_ok nmX10 hown hK hP hD hS 0 rfl rfl 13 (by decide) (hts (.fieldLink RX10 39 "OptimaWorks$Worker" "under" "[J") (by decide +kernel)) (fun _ h9 => h9) rfl hin rfl (by decide +kernel) rfl rfl (Nat.le_of_ble_eq_true rfl) dX10_init_73 (fun H locs hP hD hS => ?_)
  have hP : va_P (dC, dI) vwCl [(h0, .inr (10, [.null, .null, .null, .int 0, .ref q7, .ref q15, .ref q23, .ref q31, .ref q39, .int 0, .ref q46, .ref q53, .ref q62, .ref q71, .null, .int 0, .int 0, .int 0, .long 0, .long 0])), (q7, .inl (k7, 40, .inr (.inl (fun _ => 0)))), (q15, .inl (k15, 40, .inl (fun _ => 0))), (q23, .inl (k23, 40, .inl (fun _ => 0))), (q31, .inl (k31, 40, .inl (fun _ => 0))), (q39, .inl (k39, 40, .inl (fun _ => 0))), (q46, .inl (k46, 0, .inl (fun _ => 0))), (q53, .inl (k53, 0, .inl (fun _ => 0))), (q62, .inl (k62, 360, .inr (.inl (fun _ => 0)))), (q71, .inl (k71, 360, .inr (.inl (fun _ => 0))))] H := hP
  have hD : va_D A [(h0, .inr (10, [.null, .null, .null, .int 0, .ref q7, .ref q15, .ref q23, .ref q31, .ref q39, .int 0, .ref q46, .ref q53, .ref q62, .ref q71, .null, .int 0, .int 0, .int 0, .long 0, .long 0])), (q7, .inl (k7, 40, .inr (.inl (fun _ => 0)))), (q15, .inl (k15, 40, .inl (fun _ => 0))), (q23, .inl (k23, 40, .inl (fun _ => 0))), (q31, .inl (k31, 40, .inl (fun _ => 0))), (q39, .inl (k39, 40, .inl (fun _ => 0))), (q46, .inl (k46, 0, .inl (fun _ => 0))), (q53, .inl (k53, 0, .inl (fun _ => 0))), (q62, .inl (k62, 360, .inr (.inl (fun _ => 0)))), (q71, .inl (k71, 360, .inr (.inl (fun _ => 0))))] := hD
  refine lv_aload_n hx hb dX10_init_76 rfl (lv_at hl 0 rfl) ?_
  refine lv_bipush (v := 64) hx hb dX10_init_77 (by decide) ?_
  refine va_newa (atype := .int) (ty := .int) (N' := 64) (a0 := (64, .inl (fun _ => 0))) hx hb (hts _ hm_p_X10_init_1) rfl hK hP hD hS hA (fun _ => rfl) (by decide) (by decide) (by decide +kernel) (by decide +kernel) (by decide +kernel) dX10_init_79 (fun q79 k79 H hK hP hD hS => ?_)
  have hP : va_P (dC, dI) vwCl [(h0, .inr (10, [.null, .null, .null, .int 0, .ref q7, .ref q15, .ref q23, .ref q31, .ref q39, .int 0, .ref q46, .ref q53, .ref q62, .ref q71, .null, .int 0, .int 0, .int 0, .long 0, .long 0])), (q7, .inl (k7, 40, .inr (.inl (fun _ => 0)))), (q15, .inl (k15, 40, .inl (fun _ => 0))), (q23, .inl (k23, 40, .inl (fun _ => 0))), (q31, .inl (k31, 40, .inl (fun _ => 0))), (q39, .inl (k39, 40, .inl (fun _ => 0))), (q46, .inl (k46, 0, .inl (fun _ => 0))), (q53, .inl (k53, 0, .inl (fun _ => 0))), (q62, .inl (k62, 360, .inr (.inl (fun _ => 0)))), (q71, .inl (k71, 360, .inr (.inl (fun _ => 0)))), (q79, .inl (k79, 64, .inl (fun _ => 0)))] H := hP
  have hD : va_D A [(h0, .inr (10, [.null, .null, .null, .int 0, .ref q7, .ref q15, .ref q23, .ref q31, .ref q39, .int 0, .ref q46, .ref q53, .ref q62, .ref q71, .null, .int 0, .int 0, .int 0, .long 0, .long 0])), (q7, .inl (k7, 40, .inr (.inl (fun _ => 0)))), (q15, .inl (k15, 40, .inl (fun _ => 0))), (q23, .inl (k23, 40, .inl (fun _ => 0))), (q31, .inl (k31, 40, .inl (fun _ => 0))), (q39, .inl (k39, 40, .inl (fun _ => 0))), (q46, .inl (k46, 0, .inl (fun _ => 0))), (q53, .inl (k53, 0, .inl (fun _ => 0))), (q62, .inl (k62, 360, .inr (.inl (fun _ => 0)))), (q71, .inl (k71, 360, .inr (.inl (fun _ => 0)))), (q79, .inl (k79, 64, .inl (fun _ => 0)))] := hD
  have hK : va_K (dC, dI) vwCl [(k7, .long), (k15, .int), (k23, .int), (k31, .int), (k39, .int), (k46, .int), (k53, .int), (k62, .long), (k71, .long), (k79, .int)] s := hK
  refine W.widen (k := 10) (n := 984) (by decide +kernel) (by decide +kernel) ?_
  refine va_putF (D := (dC, dI)) (ci := 10) (v := .ref q79) (ty := .array .int) (C := RX10) (T := TX10) (N := 20) hx hb hts iwsPX10_init_in10 tyX10 tyX10_ok nmX10 hown hK hP hD hS 0 rfl rfl 14 (by decide) (hts (.fieldLink RX10 44 "OptimaWorks$Worker" "bound" "[I") (by decide +kernel)) (fun _ h9 => h9) rfl hin rfl (by decide +kernel) rfl rfl (Nat.le_of_ble_eq_true rfl) dX10_init_81 (fun H locs hP hD hS => ?_)
  have hP : va_P (dC, dI) vwCl [(h0, .inr (10, [.null, .null, .null, .int 0, .ref q7, .ref q15, .ref q23, .ref q31, .ref q39, .int 0, .ref q46, .ref q53, .ref q62, .ref q71, .ref q79, .int 0, .int 0, .int 0, .long 0, .long 0])), (q7, .inl (k7, 40, .inr (.inl (fun _ => 0)))), (q15, .inl (k15, 40, .inl (fun _ => 0))), (q23, .inl (k23, 40, .inl (fun _ => 0))), (q31, .inl (k31, 40, .inl (fun _ => 0))), (q39, .inl (k39, 40, .inl (fun _ => 0))), (q46, .inl (k46, 0, .inl (fun _ => 0))), (q53, .inl (k53, 0, .inl (fun _ => 0))), (q62, .inl (k62, 360, .inr (.inl (fun _ => 0)))), (q71, .inl (k71, 360, .inr (.inl (fun _ => 0)))), (q79, .inl (k79, 64, .inl (fun _ => 0)))] H := hP
  have hD : va_D A [(h0, .inr (10, [.null, .null, .null, .int 0, .ref q7, .ref q15, .ref q23, .ref q31, .ref q39, .int 0, .ref q46, .ref q53, .ref q62, .ref q71, .ref q79, .int 0, .int 0, .int 0, .long 0, .long 0])), (q7, .inl (k7, 40, .inr (.inl (fun _ => 0)))), (q15, .inl (k15, 40, .inl (fun _ => 0))), (q23, .inl (k23, 40, .inl (fun _ => 0))), (q31, .inl (k31, 40, .inl (fun _ => 0))), (q39, .inl (k39, 40, .inl (fun _ => 0))), (q46, .inl (k46, 0, .inl (fun _ => 0))), (q53, .inl (k53, 0, .inl (fun _ => 0))), (q62, .inl (k62, 360, .inr (.inl (fun _ => 0)))), (q71, .inl (k71, 360, .inr (.inl (fun _ => 0)))), (q79, .inl (k79, 64, .inl (fun _ => 0)))] := hD
  refine lv_aload_n hx hb dX10_init_84 rfl (lv_at hl 0 rfl) ?_
  refine lv_aload_n hx hb dX10_init_85 rfl (lv_at hl 1 rfl) ?_
  refine va_putF (D := (dC, dI)) (ci := 10) (v := .ref wa) (ty := .object "OptimaWorks$Words") (C := RX10) (T := TX10) (N := 20) hx hb hts iwsPX10_init_in10 tyX10 tyX10_ok nmX10 hown hK hP hD hS 0 rfl rfl 0 (by decide) (hts (.fieldLink RX10 47 "OptimaWorks$Worker" "words" "LOptimaWorks$Words;") (by decide +kernel)) (fun _ h9 => h9) rfl hin rfl (by decide +kernel) rfl rfl (Nat.le_of_ble_eq_true rfl) dX10_init_86 (fun H locs hP hD hS => ?_)
  have hP : va_P (dC, dI) vwCl [(h0, .inr (10, [.ref wa, .null, .null, .int 0, .ref q7, .ref q15, .ref q23, .ref q31, .ref q39, .int 0, .ref q46, .ref q53, .ref q62, .ref q71, .ref q79, .int 0, .int 0, .int 0, .long 0, .long 0])), (q7, .inl (k7, 40, .inr (.inl (fun _ => 0)))), (q15, .inl (k15, 40, .inl (fun _ => 0))), (q23, .inl (k23, 40, .inl (fun _ => 0))), (q31, .inl (k31, 40, .inl (fun _ => 0))), (q39, .inl (k39, 40, .inl (fun _ => 0))), (q46, .inl (k46, 0, .inl (fun _ => 0))), (q53, .inl (k53, 0, .inl (fun _ => 0))), (q62, .inl (k62, 360, .inr (.inl (fun _ => 0)))), (q71, .inl (k71, 360, .inr (.inl (fun _ => 0)))), (q79, .inl (k79, 64, .inl (fun _ => 0)))] H := hP
  have hD : va_D A [(h0, .inr (10, [.ref wa, .null, .null, .int 0, .ref q7, .ref q15, .ref q23, .ref q31, .ref q39, .int 0, .ref q46, .ref q53, .ref q62, .ref q71, .ref q79, .int 0, .int 0, .int 0, .long 0, .long 0])), (q7, .inl (k7, 40, .inr (.inl (fun _ => 0)))), (q15, .inl (k15, 40, .inl (fun _ => 0))), (q23, .inl (k23, 40, .inl (fun _ => 0))), (q31, .inl (k31, 40, .inl (fun _ => 0))), (q39, .inl (k39, 40, .inl (fun _ => 0))), (q46, .inl (k46, 0, .inl (fun _ => 0))), (q53, .inl (k53, 0, .inl (fun _ => 0))), (q62, .inl (k62, 360, .inr (.inl (fun _ => 0)))), (q71, .inl (k71, 360, .inr (.inl (fun _ => 0)))), (q79, .inl (k79, 64, .inl (fun _ => 0)))] := hD
  refine lv_aload_n hx hb dX10_init_89 rfl (lv_at hl 0 rfl) ?_
  refine lv_aload_n hx hb dX10_init_90 rfl (lv_at hl 2 rfl) ?_
  refine va_putF (D := (dC, dI)) (ci := 10) (v := .ref ma) (ty := .object "OptimaWorks$Model") (C := RX10) (T := TX10) (N := 20) hx hb hts iwsPX10_init_in10 tyX10 tyX10_ok nmX10 hown hK hP hD hS 0 rfl rfl 1 (by decide) (hts (.fieldLink RX10 51 "OptimaWorks$Worker" "model" "LOptimaWorks$Model;") (by decide +kernel)) (fun _ h9 => h9) rfl hin rfl (by decide +kernel) rfl rfl (Nat.le_of_ble_eq_true rfl) dX10_init_91 (fun H locs hP hD hS => ?_)
  have hP : va_P (dC, dI) vwCl [(h0, .inr (10, [.ref wa, .ref ma, .null, .int 0, .ref q7, .ref q15, .ref q23, .ref q31, .ref q39, .int 0, .ref q46, .ref q53, .ref q62, .ref q71, .ref q79, .int 0, .int 0, .int 0, .long 0, .long 0])), (q7, .inl (k7, 40, .inr (.inl (fun _ => 0)))), (q15, .inl (k15, 40, .inl (fun _ => 0))), (q23, .inl (k23, 40, .inl (fun _ => 0))), (q31, .inl (k31, 40, .inl (fun _ => 0))), (q39, .inl (k39, 40, .inl (fun _ => 0))), (q46, .inl (k46, 0, .inl (fun _ => 0))), (q53, .inl (k53, 0, .inl (fun _ => 0))), (q62, .inl (k62, 360, .inr (.inl (fun _ => 0)))), (q71, .inl (k71, 360, .inr (.inl (fun _ => 0)))), (q79, .inl (k79, 64, .inl (fun _ => 0)))] H := hP
  have hD : va_D A [(h0, .inr (10, [.ref wa, .ref ma, .null, .int 0, .ref q7, .ref q15, .ref q23, .ref q31, .ref q39, .int 0, .ref q46, .ref q53, .ref q62, .ref q71, .ref q79, .int 0, .int 0, .int 0, .long 0, .long 0])), (q7, .inl (k7, 40, .inr (.inl (fun _ => 0)))), (q15, .inl (k15, 40, .inl (fun _ => 0))), (q23, .inl (k23, 40, .inl (fun _ => 0))), (q31, .inl (k31, 40, .inl (fun _ => 0))), (q39, .inl (k39, 40, .inl (fun _ => 0))), (q46, .inl (k46, 0, .inl (fun _ => 0))), (q53, .inl (k53, 0, .inl (fun _ => 0))), (q62, .inl (k62, 360, .inr (.inl (fun _ => 0)))), (q71, .inl (k71, 360, .inr (.inl (fun _ => 0)))), (q79, .inl (k79, 64, .inl (fun _ => 0)))] := hD
  refine W.widen (k := 10) (n := 984) (by decide +kernel) (by decide +kernel) ?_
  exact W.vret hx hb hr (fun t ht hW => ⟨⟨(q7, q15, q23, q31, q39, q46, q53, q62, q71, q79, k7, k15, k23, k31, k39, k46, k53, k62, k71, k79), rfl, trivial, by rw [ht]; exact hP.sub [0, 1, 2, 3, 4, 5, 6, 7, 8, 9, 10] rfl, va_K.moved hW.alike (hK.sub [0, 1, 2, 3, 4, 5, 6, 7, 8, 9] rfl), hD.sub [0, 1, 2, 3, 4, 5, 6, 7, 8, 9, 10] (by decide) rfl⟩, hS.F ht⟩) hS.2.2 dX10_init_94
theorem dX4_init_0 : decode cX4_init 0 = .ok (.aload_n 0, 1) := dk_42 (by decide +kernel)
theorem dX4_init_1 : decode cX4_init 1 = .ok (.invokespecial 3, 3) := dk_183 (by decide +kernel)
theorem dX4_init_4 : decode cX4_init 4 = .ok (.aload_n 0, 1) := dk_42 (by decide +kernel)
theorem dX4_init_5 : decode cX4_init 5 = .ok (.bipush 7, 2) := dk_16 (by decide +kernel)
theorem dX4_init_7 : decode cX4_init 7 = .ok (.newarray .int, 2) := by decide +kernel
theorem dX4_init_9 : decode cX4_init 9 = .ok (.putfield 11, 3) := dk_181 (by decide +kernel)
theorem dX4_init_12 : decode cX4_init 12 = .ok (.aload_n 0, 1) := dk_42 (by decide +kernel)
theorem dX4_init_13 : decode cX4_init 13 = .ok (.bipush 64, 2) := dk_16 (by decide +kernel)
theorem dX4_init_15 : decode cX4_init 15 = .ok (.newarray .long, 2) := by decide +kernel
theorem dX4_init_17 : decode cX4_init 17 = .ok (.putfield 15, 3) := dk_181 (by decide +kernel)
theorem dX4_init_20 : decode cX4_init 20 = .ok (.aload_n 0, 1) := dk_42 (by decide +kernel)
theorem dX4_init_21 : decode cX4_init 21 = .ok (.aload_n 1, 1) := dk_43 (by decide +kernel)
theorem dX4_init_22 : decode cX4_init 22 = .ok (.putfield 19, 3) := dk_181 (by decide +kernel)
theorem dX4_init_25 : decode cX4_init 25 = .ok (.aload_n 0, 1) := dk_42 (by decide +kernel)
theorem dX4_init_26 : decode cX4_init 26 = .ok (.aload_n 2, 1) := dk_44 (by decide +kernel)
theorem dX4_init_27 : decode cX4_init 27 = .ok (.putfield 23, 3) := dk_181 (by decide +kernel)
theorem dX4_init_30 : decode cX4_init 30 = .ok (.aload_n 0, 1) := dk_42 (by decide +kernel)
theorem dX4_init_31 : decode cX4_init 31 = .ok (.new 27, 3) := dk_187 (by decide +kernel)
theorem dX4_init_34 : decode cX4_init 34 = .ok (.dup, 1) := dk_89 (by decide +kernel)
theorem dX4_init_35 : decode cX4_init 35 = .ok (.aload_n 1, 1) := dk_43 (by decide +kernel)
theorem dX4_init_36 : decode cX4_init 36 = .ok (.aload_n 2, 1) := dk_44 (by decide +kernel)
theorem dX4_init_37 : decode cX4_init 37 = .ok (.invokespecial 29, 3) := dk_183 (by decide +kernel)
theorem dX4_init_40 : decode cX4_init 40 = .ok (.putfield 32, 3) := dk_181 (by decide +kernel)
theorem dX4_init_43 : decode cX4_init 43 = .ok (.return_, 1) := dk_177 (by decide +kernel)
def wsPX4_init : List Cond := .code yX4_init cX4_init 3 none :: ([.methodLink RX4 3 objectInit, .instanceMethod objectInit, .code objectInit ⟨#[0xb1]⟩ 1 none, .arrayClass .int, .fieldLink RX4 11 "OptimaWorks$Reader" "tree" "[I", .arrayClass .long, .fieldLink RX4 15 "OptimaWorks$Reader" "binder" "[J", .fieldLink RX4 19 "OptimaWorks$Reader" "words" "LOptimaWorks$Words;", .fieldLink RX4 23 "OptimaWorks$Reader" "model" "LOptimaWorks$Model;", .classLink RX4 27 RX10, .instantiable RX10 20, .initialized RX10, .methodLink RX4 29 yX10_init, .instanceMethod yX10_init, .fieldLink RX4 32 "OptimaWorks$Reader" "worker" "LOptimaWorks$Worker;"] ++ wsX40 ++ wsX100 ++ (wsPX10_init))
theorem iwsPX4_init_in4 : ∀ w ∈ wsX40, w ∈ wsPX4_init := fun _ h => List.mem_cons_of_mem _ (List.mem_append_left _ (List.mem_append_left _ (List.mem_append_right _ h)))
theorem iwsPX4_init_in10 : ∀ w ∈ wsX100, w ∈ wsPX4_init := fun _ h => List.mem_cons_of_mem _ (List.mem_append_left _ (List.mem_append_right _ h))
theorem gwsPX4_init_0 : GoodIn wsPX4_init (wsPX10_init) := goodIn_sub (fun _ h => List.mem_cons_of_mem _ (List.mem_append_right _ h)) (by decide +kernel)
theorem hm_p_X4_init_0 : (.initialized RX10 : Cond) ∈ wsPX4_init := by decide +kernel
set_option maxHeartbeats 4000000 in
set_option maxRecDepth 100000 in
/-- Reader(words, model) -/
theorem p_X4_init (l : Launch) (dC : Nat → ClassId) (dI : Nat → Nat → Nat) (h0 : Nat) (wa : Nat) (ma : Nat) (sz : Nat) : Met l yX4_init wsPX4_init ({ frames := 2, cells := 13, slots := 1075, locals := 34 }) (va_Pc [.ref h0, .ref wa, .ref ma] (fun U => U.heap.size = sz ∧ va_P (dC, dI) vwCl [(h0, .inr (4, [.null, .null, .null, .null, .int 0, .int 0, .long 0, .null, .int 0, .int 0, .int 0]))] U.heap ∧ va_K (dC, dI) vwCl [] U ∧ va_D (fun _ => True) [(h0, .inr (4, [.null, .null, .null, .null, .int 0, .int 0, .long 0, .null, .int 0, .int 0, .int 0]))])) (va_Qv (fun (u : (Nat) × (Nat) × (Nat) × (ClassId) × (ClassId) × (Nat) × (Nat) × (Nat) × (Nat) × (Nat) × (Nat) × (Nat) × (Nat) × (Nat) × (Nat) × (ClassId) × (ClassId) × (ClassId) × (ClassId) × (ClassId) × (ClassId) × (ClassId) × (ClassId) × (ClassId) × (ClassId)) => True) (fun (u : (Nat) × (Nat) × (Nat) × (ClassId) × (ClassId) × (Nat) × (Nat) × (Nat) × (Nat) × (Nat) × (Nat) × (Nat) × (Nat) × (Nat) × (Nat) × (ClassId) × (ClassId) × (ClassId) × (ClassId) × (ClassId) × (ClassId) × (ClassId) × (ClassId) × (ClassId) × (ClassId)) t => va_P (dC, dI) vwCl [(h0, .inr (4, [.ref wa, .ref ma, .ref (u.1), .ref (u.2.1), .int 0, .int 0, .long 0, .ref (u.2.2.1), .int 0, .int 0, .int 0])), ((u.2.1), .inl ((u.2.2.2.1), 7, .inl (fun _ => 0))), ((u.2.2.1), .inl ((u.2.2.2.2.1), 64, .inr (.inl (fun _ => 0)))), ((u.1), .inr (10, [.ref wa, .ref ma, .null, .int 0, .ref (u.2.2.2.2.2.1), .ref (u.2.2.2.2.2.2.1), .ref (u.2.2.2.2.2.2.2.1), .ref (u.2.2.2.2.2.2.2.2.1), .ref (u.2.2.2.2.2.2.2.2.2.1), .int 0, .ref (u.2.2.2.2.2.2.2.2.2.2.1), .ref (u.2.2.2.2.2.2.2.2.2.2.2.1), .ref (u.2.2.2.2.2.2.2.2.2.2.2.2.1), .ref (u.2.2.2.2.2.2.2.2.2.2.2.2.2.1), .ref (u.2.2.2.2.2.2.2.2.2.2.2.2.2.2.1), .int 0, .int 0, .int 0, .long 0, .long 0])), ((u.2.2.2.2.2.1), .inl ((u.2.2.2.2.2.2.2.2.2.2.2.2.2.2.2.1), 40, .inr (.inl (fun _ => 0)))), ((u.2.2.2.2.2.2.1), .inl ((u.2.2.2.2.2.2.2.2.2.2.2.2.2.2.2.2.1), 40, .inl (fun _ => 0))), ((u.2.2.2.2.2.2.2.1), .inl ((u.2.2.2.2.2.2.2.2.2.2.2.2.2.2.2.2.2.1), 40, .inl (fun _ => 0))), ((u.2.2.2.2.2.2.2.2.1), .inl ((u.2.2.2.2.2.2.2.2.2.2.2.2.2.2.2.2.2.2.1), 40, .inl (fun _ => 0))), ((u.2.2.2.2.2.2.2.2.2.1), .inl ((u.2.2.2.2.2.2.2.2.2.2.2.2.2.2.2.2.2.2.2.1), 40, .inl (fun _ => 0))), ((u.2.2.2.2.2.2.2.2.2.2.1), .inl ((u.2.2.2.2.2.2.2.2.2.2.2.2.2.2.2.2.2.2.2.2.1), 0, .inl (fun _ => 0))), ((u.2.2.2.2.2.2.2.2.2.2.2.1), .inl ((u.2.2.2.2.2.2.2.2.2.2.2.2.2.2.2.2.2.2.2.2.2.1), 0, .inl (fun _ => 0))), ((u.2.2.2.2.2.2.2.2.2.2.2.2.1), .inl ((u.2.2.2.2.2.2.2.2.2.2.2.2.2.2.2.2.2.2.2.2.2.2.1), 360, .inr (.inl (fun _ => 0)))), ((u.2.2.2.2.2.2.2.2.2.2.2.2.2.1), .inl ((u.2.2.2.2.2.2.2.2.2.2.2.2.2.2.2.2.2.2.2.2.2.2.2.1), 360, .inr (.inl (fun _ => 0)))), ((u.2.2.2.2.2.2.2.2.2.2.2.2.2.2.1), .inl ((u.2.2.2.2.2.2.2.2.2.2.2.2.2.2.2.2.2.2.2.2.2.2.2.2), 64, .inl (fun _ => 0)))] t.heap ∧ va_K (dC, dI) vwCl [((u.2.2.2.1), .int), ((u.2.2.2.2.1), .long), ((u.2.2.2.2.2.2.2.2.2.2.2.2.2.2.2.1), .long), ((u.2.2.2.2.2.2.2.2.2.2.2.2.2.2.2.2.1), .int), ((u.2.2.2.2.2.2.2.2.2.2.2.2.2.2.2.2.2.1), .int), ((u.2.2.2.2.2.2.2.2.2.2.2.2.2.2.2.2.2.2.1), .int), ((u.2.2.2.2.2.2.2.2.2.2.2.2.2.2.2.2.2.2.2.1), .int), ((u.2.2.2.2.2.2.2.2.2.2.2.2.2.2.2.2.2.2.2.2.1), .int), ((u.2.2.2.2.2.2.2.2.2.2.2.2.2.2.2.2.2.2.2.2.2.1), .int), ((u.2.2.2.2.2.2.2.2.2.2.2.2.2.2.2.2.2.2.2.2.2.2.1), .long), ((u.2.2.2.2.2.2.2.2.2.2.2.2.2.2.2.2.2.2.2.2.2.2.2.1), .long), ((u.2.2.2.2.2.2.2.2.2.2.2.2.2.2.2.2.2.2.2.2.2.2.2.2), .int)] t ∧ va_D (va_A [(h0, .inr (4, [.null, .null, .null, .null, .int 0, .int 0, .long 0, .null, .int 0, .int 0, .int 0]))] sz) [(h0, .inr (4, [.ref wa, .ref ma, .ref (u.1), .ref (u.2.1), .int 0, .int 0, .long 0, .ref (u.2.2.1), .int 0, .int 0, .int 0])), ((u.2.1), .inl ((u.2.2.2.1), 7, .inl (fun _ => 0))), ((u.2.2.1), .inl ((u.2.2.2.2.1), 64, .inr (.inl (fun _ => 0)))), ((u.1), .inr (10, [.ref wa, .ref ma, .null, .int 0, .ref (u.2.2.2.2.2.1), .ref (u.2.2.2.2.2.2.1), .ref (u.2.2.2.2.2.2.2.1), .ref (u.2.2.2.2.2.2.2.2.1), .ref (u.2.2.2.2.2.2.2.2.2.1), .int 0, .ref (u.2.2.2.2.2.2.2.2.2.2.1), .ref (u.2.2.2.2.2.2.2.2.2.2.2.1), .ref (u.2.2.2.2.2.2.2.2.2.2.2.2.1), .ref (u.2.2.2.2.2.2.2.2.2.2.2.2.2.1), .ref (u.2.2.2.2.2.2.2.2.2.2.2.2.2.2.1), .int 0, .int 0, .int 0, .long 0, .long 0])), ((u.2.2.2.2.2.1), .inl ((u.2.2.2.2.2.2.2.2.2.2.2.2.2.2.2.1), 40, .inr (.inl (fun _ => 0)))), ((u.2.2.2.2.2.2.1), .inl ((u.2.2.2.2.2.2.2.2.2.2.2.2.2.2.2.2.1), 40, .inl (fun _ => 0))), ((u.2.2.2.2.2.2.2.1), .inl ((u.2.2.2.2.2.2.2.2.2.2.2.2.2.2.2.2.2.1), 40, .inl (fun _ => 0))), ((u.2.2.2.2.2.2.2.2.1), .inl ((u.2.2.2.2.2.2.2.2.2.2.2.2.2.2.2.2.2.2.1), 40, .inl (fun _ => 0))), ((u.2.2.2.2.2.2.2.2.2.1), .inl ((u.2.2.2.2.2.2.2.2.2.2.2.2.2.2.2.2.2.2.2.1), 40, .inl (fun _ => 0))), ((u.2.2.2.2.2.2.2.2.2.2.1), .inl ((u.2.2.2.2.2.2.2.2.2.2.2.2.2.2.2.2.2.2.2.2.1), 0, .inl (fun _ => 0))), ((u.2.2.2.2.2.2.2.2.2.2.2.1), .inl ((u.2.2.2.2.2.2.2.2.2.2.2.2.2.2.2.2.2.2.2.2.2.1), 0, .inl (fun _ => 0))), ((u.2.2.2.2.2.2.2.2.2.2.2.2.1), .inl ((u.2.2.2.2.2.2.2.2.2.2.2.2.2.2.2.2.2.2.2.2.2.2.1), 360, .inr (.inl (fun _ => 0)))), ((u.2.2.2.2.2.2.2.2.2.2.2.2.2.1), .inl ((u.2.2.2.2.2.2.2.2.2.2.2.2.2.2.2.2.2.2.2.2.2.2.2.1), 360, .inr (.inl (fun _ => 0)))), ((u.2.2.2.2.2.2.2.2.2.2.2.2.2.2.1), .inl ((u.2.2.2.2.2.2.2.2.2.2.2.2.2.2.2.2.2.2.2.2.2.2.2.2), 64, .inl (fun _ => 0)))]) (va_A [(h0, .inr (4, [.null, .null, .null, .null, .int 0, .int 0, .long 0, .null, .int 0, .int 0, .int 0]))] sz)) 13 1075 (va_A [(h0, .inr (4, [.null, .null, .null, .null, .int 0, .int 0, .long 0, .null, .int 0, .int 0, .int 0]))] sz) := by
  refine Met.ofW (cc := cX4_init) (maxL := 3) (ret := none) (by decide) rfl ?_
  intro p e s m args below meth c s₁ B hml hv
  obtain ⟨rfl, hsz, hP, hK, hD0⟩ := hv
  have hx := B.exec
  have hb := B.bytes
  have hr := B.returns
  have hts := atoms_spec (ws := wsPX4_init) B.pre
  have hown : s.vm.findClass RX4 = some m.cls := findClass_of_methodNamed B.named
  have hlocks := B.notSynchronized
  have hin : meth.name = "<init>" := (name_of_methodNamed B.named B.method).1
  subst hsz
  have hD := hD0.self (sz := s.heap.size)
  generalize hAe : va_A [(h0, .inr (4, [.null, .null, .null, .null, .int 0, .int 0, .long 0, .null, .int 0, .int 0, .int 0]))] s.heap.size = A at hD ⊢
  have hA : ∀ q : Nat, s.heap.size ≤ q → A q := fun q h => by rw [← hAe]; exact Or.inr h
  have hS : va_S A s.heap s.heap [] := va_S.rf
  have hP : va_P (dC, dI) vwCl [(h0, .inr (4, [.null, .null, .null, .null, .int 0, .int 0, .long 0, .null, .int 0, .int 0, .int 0]))] s.heap := hP
  have hl := lv_entry ([.ref h0, .ref wa, .ref ma]) (n := 3) (Nat.le_of_ble_eq_true rfl)
  rw [lg_entry_eq]
  generalize (lg_sl ([.ref h0, .ref wa, .ref ma]) ++ List.replicate (3 - (lg_sl ([.ref h0, .ref wa, .ref ma])).length) Slot.unset).toArray = ls at hl ⊢
  have hl : lv_has ls 3 [(0, .ref h0), (1, .ref wa), (2, .ref ma)] := hl
  refine lv_aload_n hx hb dX4_init_0 rfl (lv_at hl 0 rfl) ?_
  refine W.objInit hx hb hown (hts (.methodLink RX4 3 objectInit) (by decide +kernel)) (hts (.instanceMethod objectInit) (by decide +kernel)) (hts (.code objectInit ⟨#[0xb1]⟩ 1 none) (by decide +kernel)) rfl (by rw [hml]; exact hl.1) rfl dX4_init_1 (by decide +kernel) (Nat.le_of_ble_eq_true rfl) ?_
  refine W.eq (g2 := F0 m 4 ls []) rfl ?_
  refine lv_aload_n hx hb dX4_init_4 rfl (lv_at hl 0 rfl) ?_
  refine lv_bipush (v := 7) hx hb dX4_init_5 (by decide) ?_
  refine va_newa (atype := .int) (ty := .int) (N' := 7) (a0 := (7, .inl (fun _ => 0))) hx hb (hts (.arrayClass .int) (by decide +kernel)) rfl hK hP hD hS hA (fun _ => rfl) (by decide) (by decide) (by decide +kernel) (by decide +kernel) (by decide +kernel) dX4_init_7 (fun q7 k7 H hK hP hD hS => ?_)
  have hP : va_P (dC, dI) vwCl [(h0, .inr (4, [.null, .null, .null, .null, .int 0, .int 0, .long 0, .null, .int 0, .int 0, .int 0])), (q7, .inl (k7, 7, .inl (fun _ => 0)))] H := hP
  have hD : va_D A [(h0, .inr (4, [.null, .null, .null, .null, .int 0, .int 0, .long 0, .null, .int 0, .int 0, .int 0])), (q7, .inl (k7, 7, .inl (fun _ => 0)))] := hD
  have hK : va_K (dC, dI) vwCl [(k7, .int)] s := hK
  refine W.widen (k := 1) (n := 7) (by decide +kernel) (by decide +kernel) ?_
  refine va_put (D := (dC, dI)) (ci := 4) (v := .ref q7) (ty := .array .int) (C := RX4) (T := TX4) (N := 11) hx hb hts iwsPX4_init_in4 tyX4 tyX4_ok nmX4 hown hK hP hD hS 0 rfl rfl 3 (by decide) (hts (.fieldLink RX4 11 "OptimaWorks$Reader" "tree" "[I") (by decide +kernel)) (fun _ h9 => h9) rfl (by decide +kernel) rfl rfl (Nat.le_of_ble_eq_true rfl) dX4_init_9 (fun H locs hP hD hS => ?_)
  have hP : va_P (dC, dI) vwCl [(h0, .inr (4, [.null, .null, .null, .ref q7, .int 0, .int 0, .long 0, .null, .int 0, .int 0, .int 0])), (q7, .inl (k7, 7, .inl (fun _ => 0)))] H := hP
  have hD : va_D A [(h0, .inr (4, [.null, .null, .null, .ref q7, .int 0, .int 0, .long 0, .null, .int 0, .int 0, .int 0])), (q7, .inl (k7, 7, .inl (fun _ => 0)))] := hD
  refine lv_aload_n hx hb dX4_init_12 rfl (lv_at hl 0 rfl) ?_
  refine lv_bipush (v := 64) hx hb dX4_init_13 (by decide) ?_
  refine va_newa (atype := .long) (ty := .long) (N' := 64) (a0 := (64, .inr (.inl (fun _ => 0)))) hx hb (hts (.arrayClass .long) (by decide +kernel)) rfl hK hP hD hS hA (fun _ => rfl) (by decide) (by decide) (by decide +kernel) (by decide +kernel) (by decide +kernel) dX4_init_15 (fun q15 k15 H hK hP hD hS => ?_)
  have hP : va_P (dC, dI) vwCl [(h0, .inr (4, [.null, .null, .null, .ref q7, .int 0, .int 0, .long 0, .null, .int 0, .int 0, .int 0])), (q7, .inl (k7, 7, .inl (fun _ => 0))), (q15, .inl (k15, 64, .inr (.inl (fun _ => 0))))] H := hP
  have hD : va_D A [(h0, .inr (4, [.null, .null, .null, .ref q7, .int 0, .int 0, .long 0, .null, .int 0, .int 0, .int 0])), (q7, .inl (k7, 7, .inl (fun _ => 0))), (q15, .inl (k15, 64, .inr (.inl (fun _ => 0))))] := hD
  have hK : va_K (dC, dI) vwCl [(k7, .int), (k15, .long)] s := hK
  refine W.widen (k := 2) (n := 71) (by decide +kernel) (by decide +kernel) ?_
  refine va_putF (D := (dC, dI)) (ci := 4) (v := .ref q15) (ty := .array .long) (C := RX4) (T := TX4) (N := 11) hx hb hts iwsPX4_init_in4 tyX4 tyX4_ok nmX4 hown hK hP hD hS 0 rfl rfl 7 (by decide) (hts (.fieldLink RX4 15 "OptimaWorks$Reader" "binder" "[J") (by decide +kernel)) (fun _ h9 => h9) rfl hin rfl (by decide +kernel) rfl rfl (Nat.le_of_ble_eq_true rfl) dX4_init_17 (fun H locs hP hD hS => ?_)
  have hP : va_P (dC, dI) vwCl [(h0, .inr (4, [.null, .null, .null, .ref q7, .int 0, .int 0, .long 0, .ref q15, .int 0, .int 0, .int 0])), (q7, .inl (k7, 7, .inl (fun _ => 0))), (q15, .inl (k15, 64, .inr (.inl (fun _ => 0))))] H := hP
  have hD : va_D A [(h0, .inr (4, [.null, .null, .null, .ref q7, .int 0, .int 0, .long 0, .ref q15, .int 0, .int 0, .int 0])), (q7, .inl (k7, 7, .inl (fun _ => 0))), (q15, .inl (k15, 64, .inr (.inl (fun _ => 0))))] := hD
  refine lv_aload_n hx hb dX4_init_20 rfl (lv_at hl 0 rfl) ?_
  refine lv_aload_n hx hb dX4_init_21 rfl (lv_at hl 1 rfl) ?_
  refine va_putF (D := (dC, dI)) (ci := 4) (v := .ref wa) (ty := .object "OptimaWorks$Words") (C := RX4) (T := TX4) (N := 11) hx hb hts iwsPX4_init_in4 tyX4 tyX4_ok nmX4 hown hK hP hD hS 0 rfl rfl 0 (by decide) (hts (.fieldLink RX4 19 "OptimaWorks$Reader" "words" "LOptimaWorks$Words;") (by decide +kernel)) (fun _ h9 => h9) rfl hin rfl (by decide +kernel) rfl rfl (Nat.le_of_ble_eq_true rfl) dX4_init_22 (fun H locs hP hD hS => ?_)
  have hP : va_P (dC, dI) vwCl [(h0, .inr (4, [.ref wa, .null, .null, .ref q7, .int 0, .int 0, .long 0, .ref q15, .int 0, .int 0, .int 0])), (q7, .inl (k7, 7, .inl (fun _ => 0))), (q15, .inl (k15, 64, .inr (.inl (fun _ => 0))))] H := hP
  have hD : va_D A [(h0, .inr (4, [.ref wa, .null, .null, .ref q7, .int 0, .int 0, .long 0, .ref q15, .int 0, .int 0, .int 0])), (q7, .inl (k7, 7, .inl (fun _ => 0))), (q15, .inl (k15, 64, .inr (.inl (fun _ => 0))))] := hD
  refine lv_aload_n hx hb dX4_init_25 rfl (lv_at hl 0 rfl) ?_
  refine lv_aload_n hx hb dX4_init_26 rfl (lv_at hl 2 rfl) ?_
  refine va_putF (D := (dC, dI)) (ci := 4) (v := .ref ma) (ty := .object "OptimaWorks$Model") (C := RX4) (T := TX4) (N := 11) hx hb hts iwsPX4_init_in4 tyX4 tyX4_ok nmX4 hown hK hP hD hS 0 rfl rfl 1 (by decide) (hts (.fieldLink RX4 23 "OptimaWorks$Reader" "model" "LOptimaWorks$Model;") (by decide +kernel)) (fun _ h9 => h9) rfl hin rfl (by decide +kernel) rfl rfl (Nat.le_of_ble_eq_true rfl) dX4_init_27 (fun H locs hP hD hS => ?_)
  have hP : va_P (dC, dI) vwCl [(h0, .inr (4, [.ref wa, .ref ma, .null, .ref q7, .int 0, .int 0, .long 0, .ref q15, .int 0, .int 0, .int 0])), (q7, .inl (k7, 7, .inl (fun _ => 0))), (q15, .inl (k15, 64, .inr (.inl (fun _ => 0))))] H := hP
  have hD : va_D A [(h0, .inr (4, [.ref wa, .ref ma, .null, .ref q7, .int 0, .int 0, .long 0, .ref q15, .int 0, .int 0, .int 0])), (q7, .inl (k7, 7, .inl (fun _ => 0))), (q15, .inl (k15, 64, .inr (.inl (fun _ => 0))))] := hD
  refine lv_aload_n hx hb dX4_init_30 rfl (lv_at hl 0 rfl) ?_
  refine va_new (ci := 10) (fs := [.null, .null, .null, .int 0, .null, .null, .null, .null, .null, .int 0, .null, .null, .null, .null, .null, .int 0, .int 0, .int 0, .long 0, .long 0]) (C := RX10) (T := TX10) (N := 20) hx hb hts iwsPX4_init_in10 tyX10 tyX10_ok hown (hts (.classLink RX4 27 RX10) (by decide +kernel)) (hts (.instantiable RX10 20) (by decide +kernel)) (hts _ hm_p_X4_init_0) hK hP hD hS hA rfl (by decide +kernel) (by decide +kernel) (by decide +kernel) dX4_init_31 (fun q31 H hP hD hS => ?_)
  have hP : va_P (dC, dI) vwCl [(h0, .inr (4, [.ref wa, .ref ma, .null, .ref q7, .int 0, .int 0, .long 0, .ref q15, .int 0, .int 0, .int 0])), (q7, .inl (k7, 7, .inl (fun _ => 0))), (q15, .inl (k15, 64, .inr (.inl (fun _ => 0)))), (q31, .inr (10, [.null, .null, .null, .int 0, .null, .null, .null, .null, .null, .int 0, .null, .null, .null, .null, .null, .int 0, .int 0, .int 0, .long 0, .long 0]))] H := hP
  have hD : va_D A [(h0, .inr (4, [.ref wa, .ref ma, .null, .ref q7, .int 0, .int 0, .long 0, .ref q15, .int 0, .int 0, .int 0])), (q7, .inl (k7, 7, .inl (fun _ => 0))), (q15, .inl (k15, 64, .inr (.inl (fun _ => 0)))), (q31, .inr (10, [.null, .null, .null, .int 0, .null, .null, .null, .null, .null, .int 0, .null, .null, .null, .null, .null, .int 0, .int 0, .int 0, .long 0, .long 0]))] := hD
  refine W.widen (k := 3) (n := 91) (by decide +kernel) (by decide +kernel) ?_
  refine lv_dup hx hb dX4_init_34 rfl ?_
  refine lv_aload_n hx hb dX4_init_35 rfl (lv_at hl 1 rfl) ?_
  refine lv_aload_n hx hb dX4_init_36 rfl (lv_at hl 2 rfl) ?_
  have hPc : va_P (dC, dI) vwCl ([(q31, .inr (10, [.null, .null, .null, .int 0, .null, .null, .null, .null, .null, .int 0, .null, .null, .null, .null, .null, .int 0, .int 0, .int 0, .long 0, .long 0]))]) _ := hP.sub [3] rfl
  have hDc : va_D _ ([(q31, .inr (10, [.null, .null, .null, .int 0, .null, .null, .null, .null, .null, .int 0, .null, .null, .null, .null, .null, .int 0, .int 0, .int 0, .long 0, .long 0]))]) := hD.sub [3] (by decide) rfl
  have hKc : va_K (dC, dI) vwCl ([]) _ := hK.sub [] rfl
  have hFc := va_free (wc := [(q31, .inr (10, [.null, .null, .null, .int 0, .null, .null, .null, .null, .null, .int 0, .null, .null, .null, .null, .null, .int 0, .int 0, .int 0, .long 0, .long 0]))]) hD hS hA [3] rfl
  refine va_callv (va_runI (As := [.ref wa, .ref ma]) (rest := [.ref q31, .ref h0]) ⟨hx, hb, hml, hown, hts⟩ (p_X10_init l dC dI q31 wa ma H.size) (cwI 2 hts gwsPX4_init_0 rfl rfl rfl (hts _ hm_p_X4_init_0) (hts (.methodLink RX4 29 yX10_init) (by decide +kernel)) (hts (.instanceMethod yX10_init) (by decide +kernel)) rfl (by decide +kernel) ⟨by decide +kernel, by decide +kernel⟩) ⟨fun a U g mk q => by obtain ⟨q0, q1, qP, qK, qD⟩ := q; exact ⟨q0, q1, qP, va_K.moved (u := U) (U := U.calling g mk a) (Vm.Alike.refl U.vm) qK, qD⟩, fun U hU9 hW => ⟨rfl, by rw [hU9], by rw [hU9]; exact hPc, va_K.moved hW.alike hKc, hDc.weaken (fun _ _ _ _ => trivial)⟩⟩ rfl rfl hl.1 rfl (lv_room (Nat.le_of_ble_eq_true rfl)) dX4_init_37 (by decide +kernel)) hS (fun q _ h => hFc q h) hFc (fun u t H1 locs ht hvm hw hB hz1 hk1 hS => ?_)
  obtain ⟨y037, y137, y237, y337, y437, y537, y637, y737, y837, y937, k037, k137, k237, k337, k437, k537, k637, k737, k837, k937⟩ := u
  obtain ⟨hP1, hK1, hD1⟩ := hB
  rw [ht] at hP1
  have hK1 := va_K.moved hvm.symm hK1
  obtain ⟨hP, hD⟩ := va_join (wr := [(h0, .inr (4, [.ref wa, .ref ma, .null, .ref q7, .int 0, .int 0, .long 0, .ref q15, .int 0, .int 0, .int 0])), (q7, .inl (k7, 7, .inl (fun _ => 0))), (q15, .inl (k15, 64, .inr (.inl (fun _ => 0))))]) (w1 := [(q31, .inr (10, [.ref wa, .ref ma, .null, .int 0, .ref y037, .ref y137, .ref y237, .ref y337, .ref y437, .int 0, .ref y537, .ref y637, .ref y737, .ref y837, .ref y937, .int 0, .int 0, .int 0, .long 0, .long 0])), (y037, .inl (k037, 40, .inr (.inl (fun _ => 0)))), (y137, .inl (k137, 40, .inl (fun _ => 0))), (y237, .inl (k237, 40, .inl (fun _ => 0))), (y337, .inl (k337, 40, .inl (fun _ => 0))), (y437, .inl (k437, 40, .inl (fun _ => 0))), (y537, .inl (k537, 0, .inl (fun _ => 0))), (y637, .inl (k637, 0, .inl (fun _ => 0))), (y737, .inl (k737, 360, .inr (.inl (fun _ => 0)))), (y837, .inl (k837, 360, .inr (.inl (fun _ => 0)))), (y937, .inl (k937, 64, .inl (fun _ => 0)))]) hP hD [3] [0, 1, 2] rfl rfl (by decide) (by decide) hk1 hFc hP1 hD1
  have hK := hK.app hK1
  generalize H1 = H at hP hS ⊢
  have hP : va_P (dC, dI) vwCl [(h0, .inr (4, [.ref wa, .ref ma, .null, .ref q7, .int 0, .int 0, .long 0, .ref q15, .int 0, .int 0, .int 0])), (q7, .inl (k7, 7, .inl (fun _ => 0))), (q15, .inl (k15, 64, .inr (.inl (fun _ => 0)))), (q31, .inr (10, [.ref wa, .ref ma, .null, .int 0, .ref y037, .ref y137, .ref y237, .ref y337, .ref y437, .int 0, .ref y537, .ref y637, .ref y737, .ref y837, .ref y937, .int 0, .int 0, .int 0, .long 0, .long 0])), (y037, .inl (k037, 40, .inr (.inl (fun _ => 0)))), (y137, .inl (k137, 40, .inl (fun _ => 0))), (y237, .inl (k237, 40, .inl (fun _ => 0))), (y337, .inl (k337, 40, .inl (fun _ => 0))), (y437, .inl (k437, 40, .inl (fun _ => 0))), (y537, .inl (k537, 0, .inl (fun _ => 0))), (y637, .inl (k637, 0, .inl (fun _ => 0))), (y737, .inl (k737, 360, .inr (.inl (fun _ => 0)))), (y837, .inl (k837, 360, .inr (.inl (fun _ => 0)))), (y937, .inl (k937, 64, .inl (fun _ => 0)))] H := hP
  have hD : va_D A [(h0, .inr (4, [.ref wa, .ref ma, .null, .ref q7, .int 0, .int 0, .long 0, .ref q15, .int 0, .int 0, .int 0])), (q7, .inl (k7, 7, .inl (fun _ => 0))), (q15, .inl (k15, 64, .inr (.inl (fun _ => 0)))), (q31, .inr (10, [.ref wa, .ref ma, .null, .int 0, .ref y037, .ref y137, .ref y237, .ref y337, .ref y437, .int 0, .ref y537, .ref y637, .ref y737, .ref y837, .ref y937, .int 0, .int 0, .int 0, .long 0, .long 0])), (y037, .inl (k037, 40, .inr (.inl (fun _ => 0)))), (y137, .inl (k137, 40, .inl (fun _ => 0))), (y237, .inl (k237, 40, .inl (fun _ => 0))), (y337, .inl (k337, 40, .inl (fun _ => 0))), (y437, .inl (k437, 40, .inl (fun _ => 0))), (y537, .inl (k537, 0, .inl (fun _ => 0))), (y637, .inl (k637, 0, .inl (fun _ => 0))), (y737, .inl (k737, 360, .inr (.inl (fun _ => 0)))), (y837, .inl (k837, 360, .inr (.inl (fun _ => 0)))), (y937, .inl (k937, 64, .inl (fun _ => 0)))] := hD
  have hK : va_K (dC, dI) vwCl [(k7, .int), (k15, .long), (k037, .long), (k137, .int), (k237, .int), (k337, .int), (k437, .int), (k537, .int), (k637, .int), (k737, .long), (k837, .long), (k937, .int)] s := hK
  refine W.widen (k := 13) (n := 1075) (by decide +kernel) (by decide +kernel) ?_
  refine va_putF (D := (dC, dI)) (ci := 4) (v := .ref q31) (ty := .object "OptimaWorks$Worker") (C := RX4) (T := TX4) (N := 11) hx hb hts iwsPX4_init_in4 tyX4 tyX4_ok nmX4 hown hK hP hD hS 0 rfl rfl 2 (by decide) (hts (.fieldLink RX4 32 "OptimaWorks$Reader" "worker" "LOptimaWorks$Worker;") (by decide +kernel)) (fun _ h9 => h9) rfl hin rfl (by decide +kernel) rfl rfl (Nat.le_of_ble_eq_true rfl) dX4_init_40 (fun H locs hP hD hS => ?_)
  have hP : va_P (dC, dI) vwCl [(h0, .inr (4, [.ref wa, .ref ma, .ref q31, .ref q7, .int 0, .int 0, .long 0, .ref q15, .int 0, .int 0, .int 0])), (q7, .inl (k7, 7, .inl (fun _ => 0))), (q15, .inl (k15, 64, .inr (.inl (fun _ => 0)))), (q31, .inr (10, [.ref wa, .ref ma, .null, .int 0, .ref y037, .ref y137, .ref y237, .ref y337, .ref y437, .int 0, .ref y537, .ref y637, .ref y737, .ref y837, .ref y937, .int 0, .int 0, .int 0, .long 0, .long 0])), (y037, .inl (k037, 40, .inr (.inl (fun _ => 0)))), (y137, .inl (k137, 40, .inl (fun _ => 0))), (y237, .inl (k237, 40, .inl (fun _ => 0))), (y337, .inl (k337, 40, .inl (fun _ => 0))), (y437, .inl (k437, 40, .inl (fun _ => 0))), (y537, .inl (k537, 0, .inl (fun _ => 0))), (y637, .inl (k637, 0, .inl (fun _ => 0))), (y737, .inl (k737, 360, .inr (.inl (fun _ => 0)))), (y837, .inl (k837, 360, .inr (.inl (fun _ => 0)))), (y937, .inl (k937, 64, .inl (fun _ => 0)))] H := hP
  have hD : va_D A [(h0, .inr (4, [.ref wa, .ref ma, .ref q31, .ref q7, .int 0, .int 0, .long 0, .ref q15, .int 0, .int 0, .int 0])), (q7, .inl (k7, 7, .inl (fun _ => 0))), (q15, .inl (k15, 64, .inr (.inl (fun _ => 0)))), (q31, .inr (10, [.ref wa, .ref ma, .null, .int 0, .ref y037, .ref y137, .ref y237, .ref y337, .ref y437, .int 0, .ref y537, .ref y637, .ref y737, .ref y837, .ref y937, .int 0, .int 0, .int 0, .long 0, .long 0])), (y037, .inl (k037, 40, .inr (.inl (fun _ => 0)))), (y137, .inl (k137, 40, .inl (fun _ => 0))), (y237, .inl (k237, 40, .inl (fun _ => 0))), (y337, .inl (k337, 40, .inl (fun _ => 0))), (y437, .inl (k437, 40, .inl (fun _ => 0))), (y537, .inl (k537, 0, .inl (fun _ => 0))), (y637, .inl (k637, 0, .inl (fun _ => 0))), (y737, .inl (k737, 360, .inr (.inl (fun _ => 0)))), (y837, .inl (k837, 360, .inr (.inl (fun _ => 0)))), (y937, .inl (k937, 64, .inl (fun _ => 0)))] := hD
  refine W.widen (k := 13) (n := 1075) (by decide +kernel) (by decide +kernel) ?_
  exact W.vret hx hb hr (fun t ht hW => ⟨⟨(q31, q7, q15, k7, k15, y037, y137, y237, y337, y437, y537, y637, y737, y837, y937, k037, k137, k237, k337, k437, k537, k637, k737, k837, k937), rfl, trivial, by rw [ht]; exact hP.sub [0, 1, 2, 3, 4, 5, 6, 7, 8, 9, 10, 11, 12, 13] rfl, va_K.moved hW.alike (hK.sub [0, 1, 2, 3, 4, 5, 6, 7, 8, 9, 10, 11] rfl), hD.sub [0, 1, 2, 3, 4, 5, 6, 7, 8, 9, 10, 11, 12, 13] (by decide) rfl⟩, hS.F ht⟩) hS.2.2 dX4_init_43
end
section
/-- X2 -/
theorem k_X2_init (l : Launch) (dC : Nat → ClassId) (dI : Nat → Nat → Nat) (hN : Nat → Nat) (kN : Nat → ClassId) (sz : Nat) : Met l yX2_init wsX2_init ({ frames := 1, cells := 11, slots := 1464, locals := 12 }) (va_Pc [.ref (hN 0)] (fun U => U.heap.size = sz ∧ va_P (dC, dI) vwCl [(hN 0, .inr (2, [.int 0, .null, .null, .null, .null, .int 0, .null, .null, .null, .null, .null, .int 0, .null, .null]))] U.heap ∧ va_K (dC, dI) vwCl (tN kN) U ∧ va_D (fun _ => True) [(hN 0, .inr (2, [.int 0, .null, .null, .null, .null, .int 0, .null, .null, .null, .null, .null, .int 0, .null, .null]))])) (va_Qv (fun _ : Nat → Nat => True) (fun u t => va_P (dC, dI) vwCl (WN hN u kN 0 (fun _ => 0) (fun _ => 0) (fun _ => 0) (fun _ => 0) 0 (fun _ => 0) (fun _ => 0) (fun _ => 0) (fun _ => 0) (fun _ => 0) 0 (fun _ => 0) (fun _ => 0)) t.heap ∧ va_D (va_A [(hN 0, .inr (2, [.int 0, .null, .null, .null, .null, .int 0, .null, .null, .null, .null, .null, .int 0, .null, .null]))] sz) (WN hN u kN 0 (fun _ => 0) (fun _ => 0) (fun _ => 0) (fun _ => 0) 0 (fun _ => 0) (fun _ => 0) (fun _ => 0) (fun _ => 0) (fun _ => 0) 0 (fun _ => 0) (fun _ => 0))) (va_A [(hN 0, .inr (2, [.int 0, .null, .null, .null, .null, .int 0, .null, .null, .null, .null, .null, .int 0, .null, .null]))] sz)) 11 1464 (va_A [(hN 0, .inr (2, [.int 0, .null, .null, .null, .null, .int 0, .null, .null, .null, .null, .null, .int 0, .null, .null]))] sz) := by
  refine Met.ad (c_X2_init l dC dI (hN 0) sz) (fun _ h => h) ⟨Nat.le_refl _, Nat.le_refl _, Nat.le_refl _, Nat.le_refl _⟩ (Nat.le_refl _) (Nat.le_refl _) (fun a U h => ⟨h.1, h.2.1, h.2.2.1, h.2.2.2.1.sub [] rfl, h.2.2.2.2⟩) (fun a st o t hP0 hvm _ _ hQ => ?_) (fun _ h => h)
  obtain ⟨⟨⟨u, k⟩, e1, _, hP1, hK1, hD1⟩, hF⟩ := hQ
  have hK0 := va_K.moved hvm hP0.2.2.2.1
  dsimp only at hP1 hK1 hD1
  have e_0 : k 0 = kN 0 := va_K.cl2 hK1 hK0 (i := 0) (j := 0) rfl rfl
  have e_1 : k 1 = kN 1 := va_K.cl2 hK1 hK0 (i := 1) (j := 1) rfl rfl
  have e_2 : k 2 = kN 2 := va_K.cl2 hK1 hK0 (i := 2) (j := 2) rfl rfl
  have e_3 : k 3 = kN 3 := va_K.cl2 hK1 hK0 (i := 3) (j := 3) rfl rfl
  have e_4 : k 4 = kN 4 := va_K.cl2 hK1 hK0 (i := 4) (j := 4) rfl rfl
  have e_5 : k 5 = kN 5 := va_K.cl2 hK1 hK0 (i := 5) (j := 5) rfl rfl
  have e_6 : k 6 = kN 6 := va_K.cl2 hK1 hK0 (i := 6) (j := 6) rfl rfl
  have e_7 : k 7 = kN 7 := va_K.cl2 hK1 hK0 (i := 7) (j := 7) rfl rfl
  have e_8 : k 8 = kN 8 := va_K.cl2 hK1 hK0 (i := 8) (j := 8) rfl rfl
  have e_9 : k 9 = kN 9 := va_K.cl2 hK1 hK0 (i := 9) (j := 9) rfl rfl
  have e_10 : k 10 = kN 10 := va_K.cl2 hK1 hK0 (i := 10) (j := 10) rfl rfl
  have ew : wX2 u k (hN 0) = WN hN u kN 0 (fun _ => 0) (fun _ => 0) (fun _ => 0) (fun _ => 0) 0 (fun _ => 0) (fun _ => 0) (fun _ => 0) (fun _ => 0) (fun _ => 0) 0 (fun _ => 0) (fun _ => 0) := by simp only [wX2, WN, e_0, e_1, e_2, e_3, e_4, e_5, e_6, e_7, e_8, e_9, e_10]
  rw [ew] at hP1 hD1
  exact ⟨⟨u, e1, trivial, hP1, hD1⟩, hF⟩
/-- X0 -/
theorem k_X0_init (l : Launch) (dC : Nat → ClassId) (dI : Nat → Nat → Nat) (hC : Nat → Nat) (kC : Nat → ClassId) (sz : Nat) : Met l yX0_init wsX0_init ({ frames := 1, cells := 5, slots := 8264, locals := 12 }) (va_Pc [.ref (hC 0)] (fun U => U.heap.size = sz ∧ va_P (dC, dI) vwCl [(hC 0, .inr (0, [.int 0, .null, .null, .null, .null, .null, .int 0]))] U.heap ∧ va_K (dC, dI) vwCl (tC kC) U ∧ va_D (fun _ => True) [(hC 0, .inr (0, [.int 0, .null, .null, .null, .null, .null, .int 0]))])) (va_Qv (fun _ : Nat → Nat => True) (fun u t => va_P (dC, dI) vwCl (WC hC u kC 0 (fun _ => 0) (fun _ => 0) (fun _ => 0) (fun _ => 0) (fun _ => 0) 0) t.heap ∧ va_D (va_A [(hC 0, .inr (0, [.int 0, .null, .null, .null, .null, .null, .int 0]))] sz) (WC hC u kC 0 (fun _ => 0) (fun _ => 0) (fun _ => 0) (fun _ => 0) (fun _ => 0) 0)) (va_A [(hC 0, .inr (0, [.int 0, .null, .null, .null, .null, .null, .int 0]))] sz)) 5 8264 (va_A [(hC 0, .inr (0, [.int 0, .null, .null, .null, .null, .null, .int 0]))] sz) := by
  refine Met.ad (c_X0_init l dC dI (hC 0) sz) (fun _ h => h) ⟨Nat.le_refl _, Nat.le_refl _, Nat.le_refl _, Nat.le_refl _⟩ (Nat.le_refl _) (Nat.le_refl _) (fun a U h => ⟨h.1, h.2.1, h.2.2.1, h.2.2.2.1.sub [] rfl, h.2.2.2.2⟩) (fun a st o t hP0 hvm _ _ hQ => ?_) (fun _ h => h)
  obtain ⟨⟨⟨u, k⟩, e1, _, hP1, hK1, hD1⟩, hF⟩ := hQ
  have hK0 := va_K.moved hvm hP0.2.2.2.1
  dsimp only at hP1 hK1 hD1
  have e_0 : k 0 = kC 0 := va_K.cl2 hK1 hK0 (i := 0) (j := 0) rfl rfl
  have e_1 : k 1 = kC 1 := va_K.cl2 hK1 hK0 (i := 1) (j := 1) rfl rfl
  have e_2 : k 2 = kC 2 := va_K.cl2 hK1 hK0 (i := 2) (j := 2) rfl rfl
  have e_3 : k 3 = kC 3 := va_K.cl2 hK1 hK0 (i := 3) (j := 3) rfl rfl
  have e_4 : k 4 = kC 4 := va_K.cl2 hK1 hK0 (i := 4) (j := 4) rfl rfl
  have ew : wX0 u k (hC 0) = WC hC u kC 0 (fun _ => 0) (fun _ => 0) (fun _ => 0) (fun _ => 0) (fun _ => 0) 0 := by simp only [wX0, WC, e_0, e_1, e_2, e_3, e_4]
  rw [ew] at hP1 hD1
  exact ⟨⟨u, e1, trivial, hP1, hD1⟩, hF⟩
/-- X7 -/
theorem k_X7_init (l : Launch) (dC : Nat → ClassId) (dI : Nat → Nat → Nat) (hV : Nat → Nat) (kV : Nat → ClassId) (sz : Nat) : Met l yX7_init wsX7_init ({ frames := 1, cells := 14, slots := 1388, locals := 12 }) (va_Pc [.ref (hV 0)] (fun U => U.heap.size = sz ∧ va_P (dC, dI) vwCl [(hV 0, .inr (7, [.int 0, .int 0, .null, .null, .null, .null, .null, .null, .null, .null, .null, .int 0, .int 0, .null, .null, .null, .null, .null, .int 0, .int 0]))] U.heap ∧ va_K (dC, dI) vwCl (tV kV) U ∧ va_D (fun _ => True) [(hV 0, .inr (7, [.int 0, .int 0, .null, .null, .null, .null, .null, .null, .null, .null, .null, .int 0, .int 0, .null, .null, .null, .null, .null, .int 0, .int 0]))])) (va_Qv (fun _ : Nat → Nat => True) (fun u t => va_P (dC, dI) vwCl (WV hV u kV 0 0 (fun _ => 0) (fun _ => 0) (fun _ => 0) (fun _ => 0) (fun _ => 0) (fun _ => 0) (fun _ => 0) (fun _ => 0) (fun _ => 0) (-1) 0 (fun _ => 0) (fun _ => 0) (fun _ => 0) (fun _ => 0) (fun _ => 0) (u 13) 0 0 0) t.heap ∧ va_D (va_A [(hV 0, .inr (7, [.int 0, .int 0, .null, .null, .null, .null, .null, .null, .null, .null, .null, .int 0, .int 0, .null, .null, .null, .null, .null, .int 0, .int 0]))] sz) (WV hV u kV 0 0 (fun _ => 0) (fun _ => 0) (fun _ => 0) (fun _ => 0) (fun _ => 0) (fun _ => 0) (fun _ => 0) (fun _ => 0) (fun _ => 0) (-1) 0 (fun _ => 0) (fun _ => 0) (fun _ => 0) (fun _ => 0) (fun _ => 0) (u 13) 0 0 0)) (va_A [(hV 0, .inr (7, [.int 0, .int 0, .null, .null, .null, .null, .null, .null, .null, .null, .null, .int 0, .int 0, .null, .null, .null, .null, .null, .int 0, .int 0]))] sz)) 14 1388 (va_A [(hV 0, .inr (7, [.int 0, .int 0, .null, .null, .null, .null, .null, .null, .null, .null, .null, .int 0, .int 0, .null, .null, .null, .null, .null, .int 0, .int 0]))] sz) := by
  refine Met.ad (c_X7_init l dC dI (hV 0) sz) (fun _ h => h) ⟨Nat.le_refl _, Nat.le_refl _, Nat.le_refl _, Nat.le_refl _⟩ (Nat.le_refl _) (Nat.le_refl _) (fun a U h => ⟨h.1, h.2.1, h.2.2.1, h.2.2.2.1.sub [] rfl, h.2.2.2.2⟩) (fun a st o t hP0 hvm _ _ hQ => ?_) (fun _ h => h)
  obtain ⟨⟨⟨u, k⟩, e1, _, hP1, hK1, hD1⟩, hF⟩ := hQ
  have hK0 := va_K.moved hvm hP0.2.2.2.1
  dsimp only at hP1 hK1 hD1
  have e_0 : k 0 = kV 0 := va_K.cl2 hK1 hK0 (i := 0) (j := 0) rfl rfl
  have e_1 : k 1 = kV 1 := va_K.cl2 hK1 hK0 (i := 1) (j := 1) rfl rfl
  have e_2 : k 2 = kV 2 := va_K.cl2 hK1 hK0 (i := 2) (j := 2) rfl rfl
  have e_3 : k 3 = kV 3 := va_K.cl2 hK1 hK0 (i := 3) (j := 3) rfl rfl
  have e_4 : k 4 = kV 4 := va_K.cl2 hK1 hK0 (i := 4) (j := 4) rfl rfl
  have e_5 : k 5 = kV 5 := va_K.cl2 hK1 hK0 (i := 5) (j := 5) rfl rfl
  have e_6 : k 6 = kV 6 := va_K.cl2 hK1 hK0 (i := 6) (j := 6) rfl rfl
  have e_7 : k 7 = kV 7 := va_K.cl2 hK1 hK0 (i := 7) (j := 7) rfl rfl
  have e_8 : k 8 = kV 8 := va_K.cl2 hK1 hK0 (i := 8) (j := 8) rfl rfl
  have e_9 : k 9 = kV 9 := va_K.cl2 hK1 hK0 (i := 9) (j := 9) rfl rfl
  have e_10 : k 10 = kV 10 := va_K.cl2 hK1 hK0 (i := 10) (j := 10) rfl rfl
  have e_11 : k 11 = kV 11 := va_K.cl2 hK1 hK0 (i := 11) (j := 11) rfl rfl
  have e_12 : k 12 = kV 12 := va_K.cl2 hK1 hK0 (i := 12) (j := 12) rfl rfl
  have e_13 : k 13 = kV 13 := va_K.cl2 hK1 hK0 (i := 13) (j := 13) rfl rfl
  have ew : wX7 u k (hV 0) = WV hV u kV 0 0 (fun _ => 0) (fun _ => 0) (fun _ => 0) (fun _ => 0) (fun _ => 0) (fun _ => 0) (fun _ => 0) (fun _ => 0) (fun _ => 0) (-1) 0 (fun _ => 0) (fun _ => 0) (fun _ => 0) (fun _ => 0) (fun _ => 0) (u 13) 0 0 0 := by simp only [wX7, WV, e_0, e_1, e_2, e_3, e_4, e_5, e_6, e_7, e_8, e_9, e_10, e_11, e_12, e_13]
  rw [ew] at hP1 hD1
  exact ⟨⟨u, e1, trivial, hP1, hD1⟩, hF⟩
set_option maxHeartbeats 4000000 in
set_option maxRecDepth 100000 in
/-- a reader, its worker, its tree -/
theorem k_X4_init (l : Launch) (dC : Nat → ClassId) (dI : Nat → Nat → Nat) (hJ : Nat → Nat) (kJ kL kF : Nat → ClassId) (hT hM hF aF : Nat → Nat) (sz : Nat) : Met l yX4_init wsPX4_init ({ frames := 2, cells := 13, slots := 1075, locals := 34 }) (va_Pc [.ref (hJ 0), .ref (hT 0), .ref (hM 0)] (fun U => U.heap.size = sz ∧ va_P (dC, dI) vwCl [(hJ 0, .inr (4, [.null, .null, .null, .null, .int 0, .int 0, .long 0, .null, .int 0, .int 0, .int 0]))] U.heap ∧ va_K (dC, dI) vwCl (tJ kJ ++ (tL kL ++ (tF kF))) U ∧ va_D (fun _ => True) [(hJ 0, .inr (4, [.null, .null, .null, .null, .int 0, .int 0, .long 0, .null, .int 0, .int 0, .int 0]))])) (va_Qv (fun _ : (Nat → Nat) × (Nat → Nat) × (Nat → Nat) × Nat × Nat × Nat => True) (fun u t => va_P (dC, dI) vwCl (WJ hJ (u.2.1) kJ hT hM (u.1) (.ref (u.2.2.2.1)) 0 0 0 (fun _ => 0) 0 0 0 ++ (WL (u.1) (u.2.2.1) kL hT hM .null 0 (fun _ => 0) (fun _ => 0) (fun _ => 0) (fun _ => 0) (fun _ => 0) 0 (fun _ => 0) (u.2.2.2.2.1) 0 (fun _ => 0) (u.2.2.2.2.2) 0 (fun _ => 0) (fun _ => 0) (fun _ => 0) 0 0 0 0 0 ++ (WF hF aF kF (u.2.2.2.1) 7 (fun _ => 0)))) t.heap ∧ va_D (va_A [(hJ 0, .inr (4, [.null, .null, .null, .null, .int 0, .int 0, .long 0, .null, .int 0, .int 0, .int 0]))] sz) (WJ hJ (u.2.1) kJ hT hM (u.1) (.ref (u.2.2.2.1)) 0 0 0 (fun _ => 0) 0 0 0 ++ (WL (u.1) (u.2.2.1) kL hT hM .null 0 (fun _ => 0) (fun _ => 0) (fun _ => 0) (fun _ => 0) (fun _ => 0) 0 (fun _ => 0) (u.2.2.2.2.1) 0 (fun _ => 0) (u.2.2.2.2.2) 0 (fun _ => 0) (fun _ => 0) (fun _ => 0) 0 0 0 0 0 ++ (WF hF aF kF (u.2.2.2.1) 7 (fun _ => 0))))) (va_A [(hJ 0, .inr (4, [.null, .null, .null, .null, .int 0, .int 0, .long 0, .null, .int 0, .int 0, .int 0]))] sz)) 13 1075 (va_A [(hJ 0, .inr (4, [.null, .null, .null, .null, .int 0, .int 0, .long 0, .null, .int 0, .int 0, .int 0]))] sz) := by
  refine Met.ad (p_X4_init l dC dI (hJ 0) (hT 0) (hM 0) sz) (fun _ h => h) ⟨Nat.le_refl _, Nat.le_refl _, Nat.le_refl _, Nat.le_refl _⟩ (Nat.le_refl _) (Nat.le_refl _) (fun a U h => ⟨h.1, h.2.1, h.2.2.1, h.2.2.2.1.sub [] rfl, h.2.2.2.2⟩) (fun a st o t hP0 hvm _ _ hQ => ?_) (fun _ h => h)
  obtain ⟨⟨⟨wk, tr, bi, kt, kb, y0, y1, y2, y3, y4, y5, y6, y7, y8, y9, k0, k1, k2, k3, k4, k5, k6, k7, k8, k9⟩, e1, _, hP1, hK1, hD1⟩, hF9⟩ := hQ
  have hK0 := va_K.moved hvm hP0.2.2.2.1
  dsimp only at hP1 hK1 hD1
  obtain rfl : kt = kF 0 := va_K.cl2 hK1 hK0 (i := 0) (j := 11) rfl rfl
  obtain rfl : kb = kJ 0 := va_K.cl2 hK1 hK0 (i := 1) (j := 0) rfl rfl
  obtain rfl : k0 = kL 0 := va_K.cl2 hK1 hK0 (i := 2) (j := 1) rfl rfl
  obtain rfl : k1 = kL 1 := va_K.cl2 hK1 hK0 (i := 3) (j := 2) rfl rfl
  obtain rfl : k2 = kL 2 := va_K.cl2 hK1 hK0 (i := 4) (j := 3) rfl rfl
  obtain rfl : k3 = kL 3 := va_K.cl2 hK1 hK0 (i := 5) (j := 4) rfl rfl
  obtain rfl : k4 = kL 4 := va_K.cl2 hK1 hK0 (i := 6) (j := 5) rfl rfl
  obtain rfl : k5 = kL 5 := va_K.cl2 hK1 hK0 (i := 7) (j := 6) rfl rfl
  obtain rfl : k6 = kL 6 := va_K.cl2 hK1 hK0 (i := 8) (j := 7) rfl rfl
  obtain rfl : k7 = kL 7 := va_K.cl2 hK1 hK0 (i := 9) (j := 8) rfl rfl
  obtain rfl : k8 = kL 8 := va_K.cl2 hK1 hK0 (i := 10) (j := 9) rfl rfl
  obtain rfl : k9 = kL 9 := va_K.cl2 hK1 hK0 (i := 11) (j := 10) rfl rfl
  have hP2 := hP1.sub (ws' := WJ hJ (fun _ => bi) kJ hT hM (fun _ => wk) (.ref tr) 0 0 0 (fun _ => 0) 0 0 0 ++ (WL (fun _ => wk) (fun j => ([y0, y1, y2, y3, y4, y5, y6, y7, y8, y9] : List Nat).getD j 0) kL hT hM .null 0 (fun _ => 0) (fun _ => 0) (fun _ => 0) (fun _ => 0) (fun _ => 0) 0 (fun _ => 0) y5 0 (fun _ => 0) y6 0 (fun _ => 0) (fun _ => 0) (fun _ => 0) 0 0 0 0 0 ++ (WF hF aF kF tr 7 (fun _ => 0)))) [0, 2, 3, 4, 5, 6, 7, 8, 9, 10, 11, 12, 13, 1] rfl
  have hD2 := hD1.sub (ws' := WJ hJ (fun _ => bi) kJ hT hM (fun _ => wk) (.ref tr) 0 0 0 (fun _ => 0) 0 0 0 ++ (WL (fun _ => wk) (fun j => ([y0, y1, y2, y3, y4, y5, y6, y7, y8, y9] : List Nat).getD j 0) kL hT hM .null 0 (fun _ => 0) (fun _ => 0) (fun _ => 0) (fun _ => 0) (fun _ => 0) 0 (fun _ => 0) y5 0 (fun _ => 0) y6 0 (fun _ => 0) (fun _ => 0) (fun _ => 0) 0 0 0 0 0 ++ (WF hF aF kF tr 7 (fun _ => 0)))) [0, 2, 3, 4, 5, 6, 7, 8, 9, 10, 11, 12, 13, 1] (by decide) rfl
  exact ⟨⟨((fun _ => wk), (fun _ => bi), (fun j => ([y0, y1, y2, y3, y4, y5, y6, y7, y8, y9] : List Nat).getD j 0), tr, y5, y6), e1, trivial, hP2, hD2⟩, hF9⟩
end
section
/-! whole numbers as they are made -/
theorem perm_mid {a t : va_W} {x : Nat × va_E} : List.Perm ((a ++ t) ++ [x]) ((a ++ [x]) ++ t) := by
  rw [List.append_assoc, List.append_assoc]
  exact List.Perm.append_left _ List.perm_append_comm
/-- f below a, then g from nought -/
def jn {α : Type} (a : Nat) (f g : Nat → α) : Nat → α := fun j => if j < a then f j else g (j - a)
theorem jn_l {α : Type} {a j : Nat} {f g : Nat → α} (h : j < a) : jn a f g j = f j := if_pos h
theorem jn_r {α : Type} {a j : Nat} {f g : Nat → α} : jn a f g (a + j) = g j := by
  unfold jn; rw [if_neg (by omega), Nat.add_sub_cancel_left]
theorem WW_app {a b : Nat} {h1 l1 h2 l2 : Nat → Nat} {kw : ClassId} : List.Perm (WW a h1 l1 kw (fun _ => 0) (fun _ => 0) (fun _ _ => 0) ++ WW b h2 l2 kw (fun _ => 0) (fun _ => 0) (fun _ _ => 0)) (WW (a + b) (jn a h1 h2) (jn a l1 l2) kw (fun _ => 0) (fun _ => 0) (fun _ _ => 0)) := by
  unfold WW
  rw [List.range_add, List.map_append, List.map_append, List.map_map, List.map_map]
  have e1 : (List.range a).map (fun w => ((jn a h1 h2 w, .inr (8, [.ref (jn a l1 l2 w), .int 0, .int 0])) : Nat × va_E)) = (List.range a).map (fun w => ((h1 w, .inr (8, [.ref (l1 w), .int 0, .int 0])) : Nat × va_E)) := List.map_congr_left (fun w hw => by rw [jn_l (List.mem_range.mp hw), jn_l (List.mem_range.mp hw)])
  have e2 : (List.range a).map (fun w => ((jn a l1 l2 w, .inl (kw, 14, .inr (.inl (fun _ => 0)))) : Nat × va_E)) = (List.range a).map (fun w => ((l1 w, .inl (kw, 14, .inr (.inl (fun _ => 0)))) : Nat × va_E)) := List.map_congr_left (fun w hw => by rw [jn_l (List.mem_range.mp hw)])
  have e3 : (List.range b).map ((fun w => ((jn a h1 h2 w, .inr (8, [.ref (jn a l1 l2 w), .int 0, .int 0])) : Nat × va_E)) ∘ (fun x => a + x)) = (List.range b).map (fun w => ((h2 w, .inr (8, [.ref (l2 w), .int 0, .int 0])) : Nat × va_E)) := List.map_congr_left (fun w _ => by rw [Function.comp_apply, jn_r, jn_r])
  have e4 : (List.range b).map ((fun w => ((jn a l1 l2 w, .inl (kw, 14, .inr (.inl (fun _ => 0)))) : Nat × va_E)) ∘ (fun x => a + x)) = (List.range b).map (fun w => ((l2 w, .inl (kw, 14, .inr (.inl (fun _ => 0)))) : Nat × va_E)) := List.map_congr_left (fun w _ => by rw [Function.comp_apply, jn_r])
  rw [e1, e2, e3, e4, List.append_assoc, List.append_assoc]
  exact List.Perm.append_left _ (List.perm_append_comm_assoc _ _ _)
theorem WW_push {i q y : Nat} {hw lw : Nat → Nat} {kw : ClassId} : List.Perm (WW i hw lw kw (fun _ => 0) (fun _ => 0) (fun _ _ => 0) ++ [(q, .inr (8, [.ref y, .int 0, .int 0])), (y, .inl (kw, 14, .inr (.inl (fun _ => 0))))]) (WW (i + 1) (jn i hw (fun _ => q)) (jn i lw (fun _ => y)) kw (fun _ => 0) (fun _ => 0) (fun _ _ => 0)) :=
  WW_app (h2 := fun _ => q) (l2 := fun _ => y) (b := 1)
/-- a row of whole numbers, the first i of its places filled -/
def fW (i : Nat) (hw : Nat → Nat) : Nat → Option Nat := fun j => if j < i then some (hw j) else none
theorem fW_0 (hw : Nat → Nat) : fW 0 hw = fun _ => none := by funext j; unfold fW; rw [if_neg (by omega)]
theorem fW_s {i q : Nat} {hw : Nat → Nat} {x : Int32} (hx : x.toNatClampNeg = i) : va_up (fW i hw) x.toNatClampNeg (some q) = fW (i + 1) (jn i hw (fun _ => q)) := by
  rw [hx]; funext j; unfold va_up fW jn
  by_cases e : j = i
  · subst e; rw [if_pos rfl, if_pos (by omega), if_neg (by omega)]
  · rw [if_neg e]
    by_cases h : j < i
    · rw [if_pos h, if_pos (by omega), if_pos h]
    · rw [if_neg h, if_neg (by omega)]
theorem arrV_cg {cA : ClassId} {n : Nat} {f g : Nat → Option Nat} (h : ∀ j, j < n → f j = g j) : vp_cell cA (n, .inr (.inr (.inr (.inr f)))) = vp_cell cA (n, .inr (.inr (.inr (.inr g)))) := by
  rw [vp_cell_q, vp_cell_q]
  unfold arrV
  congr 1
  apply Array.ext
  · simp
  · intro i h1 h2
    simp at h1
    simp [h i h1]
theorem va_P.cg {D : va_G} {cl : List vw_C} {X Y : va_W} {a n : Nat} {cA : ClassId} {f g : Nat → Option Nat} {H : Heap} (h : va_P D cl (X ++ (a, .inl (cA, n, .inr (.inr (.inr (.inr f))))) :: Y) H) (hg : ∀ j, j < n → f j = g j) : va_P D cl (X ++ (a, .inl (cA, n, .inr (.inr (.inr (.inr g))))) :: Y) H := fun k q hk => by
  rcases List.mem_append.mp (List.mem_of_getElem? hk) with h9 | h9
  · obtain ⟨i, hi⟩ := List.getElem?_of_mem (List.mem_append_left ((a, .inl (cA, n, .inr (.inr (.inr (.inr f))))) :: Y) h9); exact h i q hi
  · rcases List.mem_cons.mp h9 with h8 | h8
    · subst h8
      obtain ⟨i, hi⟩ := List.getElem?_of_mem (List.mem_append_right X (List.mem_cons_self (a := ((a, .inl (cA, n, .inr (.inr (.inr (.inr f))))) : Nat × va_E)) (l := Y)))
      have h7 := h i _ hi
      show H[a]? = some _
      rw [← arrV_cg hg]
      exact h7
    · obtain ⟨i, hi⟩ := List.getElem?_of_mem (List.mem_append_right X (List.mem_cons_of_mem ((a, .inl (cA, n, .inr (.inr (.inr (.inr f))))) : Nat × va_E) h8)); exact h i q hi
theorem va_D.cg {A : Nat → Prop} {X Y : va_W} {a : Nat} {e1 e2 : va_E} (h : va_D A (X ++ (a, e1) :: Y)) : va_D A (X ++ (a, e2) :: Y) := by
  rw [va_D_iff] at h ⊢
  simp only [List.map_append, List.map_cons] at h ⊢
  refine ⟨h.1, fun q hq => ?_⟩
  rcases List.mem_append.mp hq with h9 | h9
  · exact h.2 q (List.mem_append_left _ h9)
  · rcases List.mem_cons.mp h9 with h8 | h8
    · subst h8; exact h.2 (a, e1) (List.mem_append_right _ List.mem_cons_self)
    · exact h.2 q (List.mem_append_right _ (List.mem_cons_of_mem _ h8))
theorem nI_cl {i : Nat} (h : i ≤ 1000) : (nI i).toNatClampNeg = i := by
  have := nI_toInt (n := i) (by omega)
  show (nI i).toInt.toNat = i
  omega
theorem perm_in {a x w t : va_W} : List.Perm ((a ++ x) ++ (w ++ t)) ((x ++ w) ++ (a ++ t)) := by
  rw [List.append_assoc, List.append_assoc]
  exact (List.perm_append_comm_assoc _ _ _).trans (List.Perm.append_left _ (List.perm_append_comm_assoc _ _ _))
theorem WW_in {i q y : Nat} {hw lw : Nat → Nat} {kw : ClassId} {T : va_W} : List.Perm ([(q, .inr (8, [.ref y, .int 0, .int 0])), (y, .inl (kw, 14, .inr (.inl (fun _ => 0))))] ++ (WW i hw lw kw (fun _ => 0) (fun _ => 0) (fun _ _ => 0) ++ T)) (WW (i + 1) (jn i hw (fun _ => q)) (jn i lw (fun _ => y)) kw (fun _ => 0) (fun _ => 0) (fun _ _ => 0) ++ T) := by
  rw [← List.append_assoc]
  exact List.Perm.append_right _ (List.perm_append_comm.trans WW_push)
theorem RuV.zero : RuV (fun _ => 0) (fun _ => 0) (fun _ => 0) (fun _ => 0) (fun _ => 0) := fun _ => ⟨fun h => absurd (show (0 : Int32).toInt = 1 from h) (by decide), fun h => absurd (show (0 : Int32).toInt = 4 from h) (by decide)⟩
theorem WW_ap2 {a b : Nat} {h1 l1 h2 l2 : Nat → Nat} {kw : ClassId} {T : va_W} : List.Perm (WW a h1 l1 kw (fun _ => 0) (fun _ => 0) (fun _ _ => 0) ++ (WW b h2 l2 kw (fun _ => 0) (fun _ => 0) (fun _ _ => 0) ++ T)) (WW (a + b) (jn a h1 h2) (jn a l1 l2) kw (fun _ => 0) (fun _ => 0) (fun _ _ => 0) ++ T) := by
  rw [← List.append_assoc]
  exact List.Perm.append_right _ WW_app
theorem fW_all {n : Nat} {hw g : Nat → Nat} (h : ∀ j, j < n → hw j = g j) : ∀ j, j < n → fW n hw j = (fun q => some (g q)) j := fun j hj => by
  show fW n hw j = some (g j)
  rw [← h j hj]; exact if_pos hj
theorem WQ_cg {D : va_G} {cl : List vw_C} {hQ aQ : Nat → Nat} {kQ : Nat → ClassId} {hw hw' : Nat → Nat} {f1 f2 f3 : Nat → Int32} {i1 i2 i3 : Int32} {X Y : va_W} {H : Heap} (h : ∀ j, j < 406 → hw j = hw' j) (hP : va_P D cl (X ++ (WQ hQ aQ kQ hw f1 f2 f3 i1 i2 i3 ++ Y)) H) : va_P D cl (X ++ (WQ hQ aQ kQ hw' f1 f2 f3 i1 i2 i3 ++ Y)) H := by
  unfold WQ at hP ⊢
  rw [← h 400 (by omega), ← h 401 (by omega), ← h 402 (by omega), ← h 403 (by omega), ← h 404 (by omega), ← h 405 (by omega)]
  have h1 := va_P.mem (ws' := (X ++ [_]) ++ _ :: ([_, _, _] ++ Y)) hP (fun q hq => by simpa [List.append_assoc] using hq)
  exact va_P.mem (va_P.cg (g := fun q => some (hw' q)) h1 (fun j hj => by rw [h j (by omega)])) (fun q hq => by simpa [List.append_assoc] using hq)
theorem fst_D {A : Nat → Prop} {ws ws' : va_W} (h : va_D A ws) (e : ws.map Prod.fst = ws'.map Prod.fst) : va_D A ws' := by
  rw [va_D_iff] at h ⊢
  refine ⟨e ▸ h.1, fun q hq => ?_⟩
  have : q.1 ∈ ws.map Prod.fst := by rw [e]; exact List.mem_map.mpr ⟨q, hq, rfl⟩
  obtain ⟨x, hx, ex⟩ := List.mem_map.mp this
  rw [← ex]; exact h.2 x hx
theorem fst_D2 {A : Nat → Prop} {X W W2 Y : va_W} (h : va_D A (X ++ (W ++ Y))) (e : W.map Prod.fst = W2.map Prod.fst) : va_D A (X ++ (W2 ++ Y)) := fst_D h (by rw [List.map_append, List.map_append, List.map_append, List.map_append, e])
theorem WO_cg {D : va_G} {cl : List vw_C} {hO aO hM hQ : Nat → Nat} {kO : Nat → ClassId} {hw hw' : Nat → Nat} {i1 i2 i3 i4 : Int32} {f1 f4 f5 f6 : Nat → Int32} {g2 g3 : Nat → Int64} {X Y : va_W} {H : Heap} (h : ∀ j, j < 432 → hw j = hw' j) (hP : va_P D cl (X ++ (WO hO aO kO hM hQ hw i1 i2 i3 i4 f1 g2 g3 f4 f5 f6 ++ Y)) H) : va_P D cl (X ++ (WO hO aO kO hM hQ hw' i1 i2 i3 i4 f1 g2 g3 f4 f5 f6 ++ Y)) H := by
  unfold WO at hP ⊢
  rw [← h 417 (by omega), ← h 426 (by omega), ← h 427 (by omega)]
  have h1 := va_P.mem (ws' := (X ++ [_, _, _, _, _, _, _]) ++ _ :: ([_, _, _] ++ Y)) hP (fun q hq => by simpa [List.append_assoc] using hq)
  have h2 := va_P.cg (g := fun q => some (hw' (406 + q))) h1 (fun j hj => by rw [h (406 + j) (by omega)])
  have h3 := va_P.mem (ws' := (X ++ [_, _, _, _, _, _, _, _]) ++ _ :: ([_, _] ++ Y)) h2 (fun q hq => by simpa [List.append_assoc] using hq)
  have h4 := va_P.cg (g := fun q => some (hw' (414 + q))) h3 (fun j hj => by rw [h (414 + j) (by omega)])
  have h5 := va_P.mem (ws' := (X ++ [_, _, _, _, _, _, _, _, _]) ++ _ :: ([_] ++ Y)) h4 (fun q hq => by simpa [List.append_assoc] using hq)
  have h6 := va_P.cg (g := fun q => some (hw' (418 + q))) h5 (fun j hj => by rw [h (418 + j) (by omega)])
  have h7 := va_P.mem (ws' := (X ++ [_, _, _, _, _, _, _, _, _, _]) ++ _ :: Y) h6 (fun q hq => by simpa [List.append_assoc] using hq)
  have h8 := va_P.cg (g := fun q => some (hw' (428 + q))) h7 (fun j hj => by rw [h (428 + j) (by omega)])
  exact va_P.mem h8 (fun q hq => by simpa [List.append_assoc] using hq)
theorem perm_nil {w : va_W} : List.Perm w ([] ++ w) := List.Perm.refl w
end
section
/-- cells under short names -/
def kr0 (q : Nat) (k : ClassId) (n : Nat) : Nat × va_E := (q, .inl (k, n, .inl (fun _ => 0)))
def kl0 (q : Nat) (k : ClassId) (n : Nat) : Nat × va_E := (q, .inl (k, n, .inr (.inl (fun _ => 0))))
def kq0 (q : Nat) (k : ClassId) (n : Nat) (f : Nat → Option Nat) : Nat × va_E := (q, .inl (k, n, .inr (.inr (.inr (.inr f)))))
def kc3 (o : Nat) (f0 f1 f2 f3 f4 f5 f6 f7 f8 f9 f10 f11 f12 f13 f14 f15 f16 : Value) : Nat × va_E := (o, .inr (3, [f0, f1, f2, f3, f4, f5, f6, f7, f8, f9, f10, f11, f12, f13, f14, f15, f16]))
def kc5 (o : Nat) (f0 f1 f2 f3 f4 f5 f6 f7 f8 f9 f10 f11 f12 f13 f14 f15 f16 f17 f18 : Value) : Nat × va_E := (o, .inr (5, [f0, f1, f2, f3, f4, f5, f6, f7, f8, f9, f10, f11, f12, f13, f14, f15, f16, f17, f18]))
def kc6 (o : Nat) (f0 f1 f2 f3 f4 f5 f6 f7 f8 f9 f10 f11 f12 : Value) : Nat × va_E := (o, .inr (6, [f0, f1, f2, f3, f4, f5, f6, f7, f8, f9, f10, f11, f12]))
theorem dX5_wholes_0 : decode cX5_wholes 0 = .ok (.iload_n 0, 1) := dk_26 (by decide +kernel)
theorem dX5_wholes_1 : decode cX5_wholes 1 = .ok (.anewarray 55, 3) := dk_189 (by decide +kernel)
theorem dX5_wholes_4 : decode cX5_wholes 4 = .ok (.astore_n 1, 1) := dk_76 (by decide +kernel)
theorem dX5_wholes_5 : decode cX5_wholes 5 = .ok (.iconst 0, 1) := dk_3 (by decide +kernel)
theorem dX5_wholes_6 : decode cX5_wholes 6 = .ok (.istore_n 2, 1) := dk_61 (by decide +kernel)
theorem dX5_wholes_7 : decode cX5_wholes 7 = .ok (.iload_n 2, 1) := dk_28 (by decide +kernel)
theorem dX5_wholes_8 : decode cX5_wholes 8 = .ok (.iload_n 0, 1) := dk_26 (by decide +kernel)
theorem dX5_wholes_9 : decode cX5_wholes 9 = .ok (.if_icmp .ge 19, 3) := dk_162 (by decide +kernel)
theorem dX5_wholes_12 : decode cX5_wholes 12 = .ok (.aload_n 1, 1) := dk_43 (by decide +kernel)
theorem dX5_wholes_13 : decode cX5_wholes 13 = .ok (.iload_n 2, 1) := dk_28 (by decide +kernel)
theorem dX5_wholes_14 : decode cX5_wholes 14 = .ok (.new 55, 3) := dk_187 (by decide +kernel)
theorem dX5_wholes_17 : decode cX5_wholes 17 = .ok (.dup, 1) := dk_89 (by decide +kernel)
theorem dX5_wholes_18 : decode cX5_wholes 18 = .ok (.invokespecial 57, 3) := dk_183 (by decide +kernel)
theorem dX5_wholes_21 : decode cX5_wholes 21 = .ok (.aastore, 1) := dk_83 (by decide +kernel)
theorem dX5_wholes_22 : decode cX5_wholes 22 = .ok (.iinc 2 1, 3) := dk_132 (by decide +kernel)
theorem dX5_wholes_25 : decode cX5_wholes 25 = .ok (.goto (-18), 3) := dk_167 (by decide +kernel)
theorem dX5_wholes_28 : decode cX5_wholes 28 = .ok (.aload_n 1, 1) := dk_43 (by decide +kernel)
theorem dX5_wholes_29 : decode cX5_wholes 29 = .ok (.areturn, 1) := dk_176 (by decide +kernel)
def wsKX5_wholes : List Cond := .code yX5_wholes cX5_wholes 3 (some (.array (.object "OptimaWorks$Whole"))) :: ([.classLink RX5 55 RX8, .instantiable RX8 3, .initialized RX8, .instanceMethod yX8_init] ++ wsX80 ++ (wsPX8_init))
theorem iwsKX5_wholes_in8 : ∀ w ∈ wsX80, w ∈ wsKX5_wholes := fun _ h => List.mem_cons_of_mem _ (List.mem_append_left _ (List.mem_append_right _ h))
theorem gwsKX5_wholes_0 : GoodIn wsKX5_wholes (wsPX8_init) := goodIn_sub (fun _ h => List.mem_cons_of_mem _ (List.mem_append_right _ h)) (by decide +kernel)
theorem hm_k_X5_wholes_0 : (.classLink RX5 55 RX8 : Cond) ∈ wsKX5_wholes := by decide +kernel
theorem hm_k_X5_wholes_1 : (.initialized RX8 : Cond) ∈ wsKX5_wholes := by decide +kernel
set_option maxHeartbeats 4000000 in
set_option maxRecDepth 100000 in
/-- whole numbers in a row -/
theorem k_X5_wholes (l : Launch) (dC : Nat → ClassId) (dI : Nat → Nat → Nat) (kb kw : ClassId) (p1 : Int32) (n : Nat) (hp : p1.toInt = ((n : Nat) : Int)) (hn : n ≤ 28) (sz : Nat) : Met l yX5_wholes wsKX5_wholes ({ frames := 3, cells := (1 + 2 * n), slots := (18 * n), locals := 40 }) (va_Pc [.int p1] (fun U => U.heap.size = sz ∧ va_P (dC, dI) vwCl ([]) U.heap ∧ va_K (dC, dI) vwCl [(kb, .object "OptimaWorks$Whole"), (kw, .long)] U ∧ va_D (fun _ => True) ([]) ∧ CE (va_A ([]) sz) U U.heap)) (va_Qr (fun (u : (Nat → Nat) × (Nat → Nat)) => True) (fun u ra t => va_P (dC, dI) vwCl ([(ra, .inl (kb, n, .inr (.inr (.inr (.inr (fW n u.1))))))] ++ WW n u.1 u.2 kw (fun _ => 0) (fun _ => 0) (fun _ _ => 0)) t.heap ∧ va_D (va_A ([]) sz) ([(ra, .inl (kb, n, .inr (.inr (.inr (.inr (fW n u.1))))))] ++ WW n u.1 u.2 kw (fun _ => 0) (fun _ => 0) (fun _ _ => 0))) (va_A ([]) sz)) (1 + 2 * n) (18 * n) (va_A ([]) sz) := by
  refine Met.ofW (cc := cX5_wholes) (maxL := 3) (ret := (some (.array (.object "OptimaWorks$Whole")))) (by decide) rfl ?_
  intro p e s m args below meth c s₁ B hml hv
  obtain ⟨rfl, hsz, hP, hK, hD0, hE⟩ := hv
  have hx := B.exec
  have hb := B.bytes
  have hr := B.returns
  have hts := atoms_spec (ws := wsKX5_wholes) B.pre
  have hown : s.vm.findClass RX5 = some m.cls := findClass_of_methodNamed B.named
  subst hsz
  have hD := hD0.self (sz := s.heap.size)
  generalize hAe : va_A ([]) s.heap.size = A at hD hE ⊢
  have hA : ∀ q : Nat, s.heap.size ≤ q → A q := fun q h => by rw [← hAe]; exact Or.inr h
  have hS : va_S A s.heap s.heap [] := va_S.rf
  have hl := lv_entry ([.int p1]) (n := 3) (Nat.le_of_ble_eq_true rfl)
  rw [lg_entry_eq]
  generalize (lg_sl ([.int p1]) ++ List.replicate (3 - (lg_sl ([.int p1])).length) Slot.unset).toArray = ls at hl ⊢
  have hl : lv_has ls 3 [(0, .int p1)] := hl
  refine lv_iload_n hx hb dX5_wholes_0 rfl (lv_at hl 0 rfl) ?_
  refine va_newq (C := "OptimaWorks$Whole") (N' := n) hx hb hown (hts _ hm_k_X5_wholes_0) hE.2.2.1.2.2.2.2.2 hK hP hD hS hA (nn_i hp (by omega)) (clampN hp rfl) (by omega) (by first | decide +kernel | (dsimp only [headSpec] <;> omega)) (by first | decide +kernel | (dsimp only [headSpec] <;> omega)) dX5_wholes_1 (fun ra cA H hKn hP hD hS => ?_)
  obtain rfl : kb = cA := (va_K.cl2 hKn hK (i := 2) (j := 0) rfl rfl).symm
  clear hKn
  have hP : va_P (dC, dI) vwCl ([(ra, .inl (kb, n, .inr (.inr (.inr (.inr (fun _ => none))))))]) H := hP
  have hD := fz_sd hP (hD) rfl
  refine W.widen (k := 1) (n := n) (by omega) (by omega) ?_
  refine lv_astore_n hx hb dX5_wholes_4 rfl hl (by decide) rfl (fun ls (hl : lv_has ls _ ([(1, .ref ra), (0, .int p1)])) => ?_)
  refine lv_iconst (v := 0) hx hb dX5_wholes_5 (by decide) ?_
  refine lv_istore_n hx hb dX5_wholes_6 rfl hl (by decide) rfl (fun ls (hl : lv_has ls _ ([(2, .int 0), (1, .ref ra), (0, .int p1)])) => ?_)
  have ez : [(ra, .inl (kb, n, .inr (.inr (.inr (.inr (fW 0 (fun _ => 0)))))))] ++ (WW 0 (fun _ => 0) (fun _ => 0) kw (fun _ => 0) (fun _ => 0) (fun _ _ => 0) ++ ([])) = [(ra, .inl (kb, n, .inr (.inr (.inr (.inr (fun _ => none))))))] ++ [] := by rw [fW_0]; rfl
  have hP : va_P (dC, dI) vwCl ([(ra, .inl (kb, n, .inr (.inr (.inr (.inr (fW 0 (fun _ => 0)))))))] ++ (WW 0 (fun _ => 0) (fun _ => 0) kw (fun _ => 0) (fun _ => 0) (fun _ _ => 0) ++ ([]))) H := by rw [ez]; rw [List.append_nil]; exact hP
  have hD : va_D A ([(ra, .inl (kb, n, .inr (.inr (.inr (.inr (fW 0 (fun _ => 0)))))))] ++ (WW 0 (fun _ => 0) (fun _ => 0) kw (fun _ => 0) (fun _ => 0) (fun _ _ => 0) ++ ([]))) := by rw [ez]; rw [List.append_nil]; exact hD
  clear ez
  have hl : lv_has ls 3 [(2, .int (nI 0)), (1, .ref ra), (0, .int p1)] := hl
  refine (fun (loop : ∀ (n9 i9 : Nat) (hw lw : Nat → Nat) (H : Heap) (locs : List Loc) (ls : Array Slot), n < n9 + i9 → i9 ≤ n → va_P (dC, dI) vwCl ([(kq0 ra kb n (fW i9 hw))] ++ (WW i9 hw lw kw (fun _ => 0) (fun _ => 0) (fun _ _ => 0) ++ ([]))) H → va_D A ([(kq0 ra kb n (fW i9 hw))] ++ (WW i9 hw lw kw (fun _ => 0) (fun _ => 0) (fun _ _ => 0) ++ ([]))) → va_S A s.heap H locs → lv_has ls 3 [(2, .int (nI i9)), (1, .ref ra), (0, .int p1)] → W p l e _ s m _ below meth c H locs (1 + 2 * i9) (n + 17 * i9) _ (F0 m 7 ls [])) => loop (n + 1) 0 _ _ _ _ _ (by omega) (Nat.zero_le _) hP hD hS hl) ?_
  intro n9
  induction n9 with
  | zero => intro i9 hw lw H locs ls h1 h2; exact False.elim (by omega)
  | succ n9 ih =>
    intro i9 hw lw H locs ls hf hi hP hD hS hl
    have ti := nI_toInt (n := i9) (by omega)
    refine lv_iload_n hx hb dX5_wholes_7 rfl (lv_at hl 0 rfl) ?_
    refine lv_iload_n hx hb dX5_wholes_8 rfl (lv_at hl 2 rfl) ?_
    refine lv_icmp_ge (tgt := 28) hx hb dX5_wholes_9 (by decide) (fun c9 => ?_) (fun c9 => ?_)
    · have t9 := toI_ge c9 ti hp
      obtain rfl : n = i9 := by omega
      refine lv_aload_n hx hb dX5_wholes_28 rfl (lv_at hl 1 rfl) ?_
      rw [List.append_nil] at hP hD
      refine W.widen (k := 1 + 2 * n) (n := 18 * n) (by omega) (by omega) ?_
      exact W.aret hx hb hr (Or.inr ⟨_, rfl⟩) (Or.inr ⟨_, rfl⟩) (fun t ht hW => ⟨⟨(hw, lw), _, rfl, trivial, by rw [ht]; exact hP, hD⟩, hS.F ht⟩) hS.2.2 dX5_wholes_29
    · have t9 := toI_nge c9 ti hp
      refine lv_aload_n hx hb dX5_wholes_12 rfl (lv_at hl 1 rfl) ?_
      refine lv_iload_n hx hb dX5_wholes_13 rfl (lv_at hl 0 rfl) ?_
      refine va_new (ci := 8) (fs := [.null, .int 0, .int 0]) (C := RX8) (T := TX8) (N := 3) hx hb hts iwsKX5_wholes_in8 tyX8 tyX8_ok hown (hts _ hm_k_X5_wholes_0) (hts (.instantiable RX8 3) (by decide +kernel)) (hts _ hm_k_X5_wholes_1) hK hP hD hS hA rfl (by decide +kernel) (by first | decide +kernel | (dsimp only [headSpec] <;> omega)) (by first | decide +kernel | (dsimp only [headSpec] <;> omega)) dX5_wholes_14 (fun q9 H hP hD hS => ?_)
      refine lv_dup hx hb dX5_wholes_17 rfl ?_
      have p9 : List.Perm (α := Nat × va_E) (([(kq0 ra kb n (fW i9 hw))] ++ (WW i9 hw lw kw (fun _ => 0) (fun _ => 0) (fun _ _ => 0) ++ ([]))) ++ [(q9, .inr (8, [.null, .int 0, .int 0]))]) ([(q9, .inr (8, [.null, .int 0, .int 0]))] ++ ([(kq0 ra kb n (fW i9 hw))] ++ (WW i9 hw lw kw (fun _ => 0) (fun _ => 0) (fun _ _ => 0) ++ ([])))) := List.perm_append_comm
      have hPc := hP.mem (fun q h => p9.mem_iff.mpr (List.mem_append_left _ h))
      have hDc := (hD.perm p9).left
      have hKc : va_K (dC, dI) vwCl ([]) _ := hK.sub [] rfl
      have hFc := freeG p9 hD hS hA
      refine va_callv (va_runIN (As := []) (rest := [.ref q9, .int (nI i9), .ref ra]) ⟨hx, hb, hml, hown, hts⟩ (p_X8_init l dC dI q9 H.size) ⟨va_cnB 0 hts gwsKX5_wholes_0 rfl rfl rfl (hE.2.2.1.2.2.2.2.1 (.methodLinkNest RX5 57 yX8_init RX11) (by decide +kernel)) (hts _ hm_k_X5_wholes_1) (by decide +kernel) ⟨by first | decide +kernel | (dsimp only [headSpec] <;> omega), by first | decide +kernel | (dsimp only [headSpec] <;> omega)⟩, rfl, (hts (.instanceMethod yX8_init) (by decide +kernel))⟩ ⟨fun a U g mk q => by obtain ⟨q0, q1, qP, qK, qD⟩ := q; exact ⟨q0, q1, qP, va_K.moved (u := U) (U := U.calling g mk a) (Vm.Alike.refl U.vm) qK, qD⟩, fun U hU hW => ⟨rfl, by rw [hU], by rw [hU]; exact hPc, va_K.moved hW.alike hKc, hDc.weaken (fun _ _ _ _ => trivial)⟩⟩ rfl rfl hl.1 rfl (lv_room (Nat.le_of_ble_eq_true rfl)) dX5_wholes_18 ⟨by first | decide +kernel | (dsimp only [headSpec] <;> omega), by first | decide +kernel | (dsimp only [headSpec] <;> omega)⟩) hS (fun q _ h => hFc q h) hFc (fun u t H1 locs ht hvm hw hB hz1 hk1 hS => ?_)
      obtain ⟨y9, k9⟩ := u
      obtain ⟨hP1, hK1, hD1⟩ := hB
      dsimp only at hP1 hK1 hD1
      rw [ht] at hP1
      have hK1 := va_K.moved hvm.symm hK1
      obtain rfl : kw = k9 := (va_K.cl2 hK1 hK (i := 0) (j := 1) rfl rfl).symm
      clear hK1 hw
      have p8 : List.Perm (α := Nat × va_E) ([(kq0 ra kb n (fW i9 hw))] ++ ([(q9, .inr (8, [.ref y9, .int 0, .int 0])), (kl0 y9 kw 14)] ++ (WW i9 hw lw kw (fun _ => 0) (fun _ => 0) (fun _ _ => 0) ++ ([])))) ([(q9, .inr (8, [.ref y9, .int 0, .int 0])), (kl0 y9 kw 14)] ++ ([(kq0 ra kb n (fW i9 hw))] ++ (WW i9 hw lw kw (fun _ => 0) (fun _ => 0) (fun _ _ => 0) ++ ([])))) := List.perm_append_comm_assoc _ _ _
      obtain ⟨hP, hD⟩ := frameG p9 p8 hP hD hk1 hFc hP1 hD1
      generalize H1 = H at hP hS ⊢
      clear p9 p8 hPc hDc hKc hFc hP1 hD1 hk1 hz1
      refine va_astq hx hb hK hP hD hS 0 0 1 8 rfl rfl rfl rfl (vp_in_iff.mpr ⟨by omega, by omega⟩) dX5_wholes_21 (fun H locs hP hD hS => ?_)
      have ef := fW_s (i := i9) (q := q9) (hw := hw) (x := nI i9) (nI_cl (by omega))
      have hP : va_P (dC, dI) vwCl ([(ra, .inl (kb, n, .inr (.inr (.inr (.inr (fW (i9 + 1) (jn i9 hw (fun _ => q9))))))))] ++ ([(q9, .inr (8, [.ref y9, .int 0, .int 0])), (kl0 y9 kw 14)] ++ (WW i9 hw lw kw (fun _ => 0) (fun _ => 0) (fun _ _ => 0) ++ ([])))) H := by rw [← ef]; exact hP
      have hD : va_D A ([(ra, .inl (kb, n, .inr (.inr (.inr (.inr (fW (i9 + 1) (jn i9 hw (fun _ => q9))))))))] ++ ([(q9, .inr (8, [.ref y9, .int 0, .int 0])), (kl0 y9 kw 14)] ++ (WW i9 hw lw kw (fun _ => 0) (fun _ => 0) (fun _ _ => 0) ++ ([])))) := by rw [← ef]; exact hD
      have p8 := List.Perm.append_left ([(ra, .inl (kb, n, .inr (.inr (.inr (.inr (fW (i9 + 1) (jn i9 hw (fun _ => q9))))))))] : va_W) (WW_in (i := i9) (q := q9) (y := y9) (hw := hw) (lw := lw) (kw := kw) (T := []))
      have hP := hP.mem (fun q h => p8.mem_iff.mpr h)
      have hD := hD.perm p8
      refine lv_iinc (v := nI (i9 + 1)) hx hb dX5_wholes_22 hl (k := 0) rfl (by rw [nI_succ]; rfl) (by decide) rfl (fun ls (hl : lv_has ls _ ([(2, .int (nI (i9 + 1))), (1, .ref ra), (0, .int p1)])) => ?_)
      refine lv_goto (tgt := 7) hx hb dX5_wholes_25 (by decide) ?_
      have hl : lv_has _ _ ([(2, .int (nI (i9 + 1))), (1, .ref ra), (0, .int p1)]) := lv_sub hl [0, 1, 2] rfl
      refine W.widen (k := 1 + 2 * (i9 + 1)) (n := n + 17 * (i9 + 1)) (by omega) (by omega) ?_
      exact ih (i9 + 1) _ _ _ _ _ (by omega) (by omega) hP hD hS hl
end
section
theorem kj_X6_init (a0 a1 a2 a3 a4 a5 a6 : va_W) : List.Perm (a0 ++ (a1 ++ (a2 ++ (a3 ++ (a4 ++ (a5 ++ (a6))))))) (a0 ++ (a6 ++ (a5 ++ (a4 ++ (a3 ++ (a2 ++ (a1))))))) := (((((((List.perm_append_comm_assoc _ _ _).trans ((List.Perm.append_left _ (List.perm_append_comm_assoc _ _ _)).trans (List.perm_append_comm_assoc _ _ _))).trans ((List.Perm.append_left _ ((List.Perm.append_left _ (List.perm_append_comm_assoc _ _ _)).trans (List.perm_append_comm_assoc _ _ _))).trans (List.perm_append_comm_assoc _ _ _))).trans ((List.Perm.append_left _ ((List.Perm.append_left _ ((List.Perm.append_left _ (List.perm_append_comm_assoc _ _ _)).trans (List.perm_append_comm_assoc _ _ _))).trans (List.perm_append_comm_assoc _ _ _))).trans (List.perm_append_comm_assoc _ _ _))).trans ((List.Perm.append_left _ ((List.Perm.append_left _ ((List.Perm.append_left _ ((List.Perm.append_left _ (List.perm_append_comm_assoc _ _ _)).trans (List.perm_append_comm_assoc _ _ _))).trans (List.perm_append_comm_assoc _ _ _))).trans (List.perm_append_comm_assoc _ _ _))).trans (List.perm_append_comm_assoc _ _ _))).trans ((List.Perm.append_left _ ((List.Perm.append_left _ ((List.Perm.append_left _ ((List.Perm.append_left _ ((List.Perm.append_left _ (List.perm_append_comm)).trans (List.perm_append_comm_assoc _ _ _))).trans (List.perm_append_comm_assoc _ _ _))).trans (List.perm_append_comm_assoc _ _ _))).trans (List.perm_append_comm_assoc _ _ _))).trans (List.perm_append_comm_assoc _ _ _))).trans ((List.Perm.append_left _ ((List.Perm.append_left _ ((List.Perm.append_left _ ((List.Perm.append_left _ ((List.Perm.append_left _ (List.perm_append_comm)).trans (List.perm_append_comm_assoc _ _ _))).trans (List.perm_append_comm_assoc _ _ _))).trans (List.perm_append_comm_assoc _ _ _))).trans (List.perm_append_comm_assoc _ _ _))).trans (List.perm_append_comm_assoc _ _ _)))
theorem dX6_init_0 : decode cX6_init 0 = .ok (.aload_n 0, 1) := dk_42 (by decide +kernel)
theorem dX6_init_1 : decode cX6_init 1 = .ok (.invokespecial 3, 3) := dk_183 (by decide +kernel)
theorem dX6_init_4 : decode cX6_init 4 = .ok (.aload_n 0, 1) := dk_42 (by decide +kernel)
theorem dX6_init_5 : decode cX6_init 5 = .ok (.sipush 400, 3) := dk_17 (by decide +kernel)
theorem dX6_init_8 : decode cX6_init 8 = .ok (.anewarray 11, 3) := dk_189 (by decide +kernel)
theorem dX6_init_11 : decode cX6_init 11 = .ok (.putfield 13, 3) := dk_181 (by decide +kernel)
theorem dX6_init_14 : decode cX6_init 14 = .ok (.aload_n 0, 1) := dk_42 (by decide +kernel)
theorem dX6_init_15 : decode cX6_init 15 = .ok (.bipush 40, 2) := dk_16 (by decide +kernel)
theorem dX6_init_17 : decode cX6_init 17 = .ok (.newarray .int, 2) := by decide +kernel
theorem dX6_init_19 : decode cX6_init 19 = .ok (.putfield 17, 3) := dk_181 (by decide +kernel)
theorem dX6_init_22 : decode cX6_init 22 = .ok (.aload_n 0, 1) := dk_42 (by decide +kernel)
theorem dX6_init_23 : decode cX6_init 23 = .ok (.bipush 41, 2) := dk_16 (by decide +kernel)
theorem dX6_init_25 : decode cX6_init 25 = .ok (.newarray .int, 2) := by decide +kernel
theorem dX6_init_27 : decode cX6_init 27 = .ok (.putfield 21, 3) := dk_181 (by decide +kernel)
theorem dX6_init_30 : decode cX6_init 30 = .ok (.aload_n 0, 1) := dk_42 (by decide +kernel)
theorem dX6_init_31 : decode cX6_init 31 = .ok (.bipush 41, 2) := dk_16 (by decide +kernel)
theorem dX6_init_33 : decode cX6_init 33 = .ok (.newarray .boolean, 2) := by decide +kernel
theorem dX6_init_35 : decode cX6_init 35 = .ok (.putfield 24, 3) := dk_181 (by decide +kernel)
theorem dX6_init_38 : decode cX6_init 38 = .ok (.aload_n 0, 1) := dk_42 (by decide +kernel)
theorem dX6_init_39 : decode cX6_init 39 = .ok (.new 11, 3) := dk_187 (by decide +kernel)
theorem dX6_init_42 : decode cX6_init 42 = .ok (.dup, 1) := dk_89 (by decide +kernel)
theorem dX6_init_43 : decode cX6_init 43 = .ok (.invokespecial 28, 3) := dk_183 (by decide +kernel)
theorem dX6_init_46 : decode cX6_init 46 = .ok (.putfield 29, 3) := dk_181 (by decide +kernel)
theorem dX6_init_49 : decode cX6_init 49 = .ok (.aload_n 0, 1) := dk_42 (by decide +kernel)
theorem dX6_init_50 : decode cX6_init 50 = .ok (.new 11, 3) := dk_187 (by decide +kernel)
theorem dX6_init_53 : decode cX6_init 53 = .ok (.dup, 1) := dk_89 (by decide +kernel)
theorem dX6_init_54 : decode cX6_init 54 = .ok (.invokespecial 28, 3) := dk_183 (by decide +kernel)
theorem dX6_init_57 : decode cX6_init 57 = .ok (.putfield 33, 3) := dk_181 (by decide +kernel)
theorem dX6_init_60 : decode cX6_init 60 = .ok (.aload_n 0, 1) := dk_42 (by decide +kernel)
theorem dX6_init_61 : decode cX6_init 61 = .ok (.new 11, 3) := dk_187 (by decide +kernel)
theorem dX6_init_64 : decode cX6_init 64 = .ok (.dup, 1) := dk_89 (by decide +kernel)
theorem dX6_init_65 : decode cX6_init 65 = .ok (.invokespecial 28, 3) := dk_183 (by decide +kernel)
theorem dX6_init_68 : decode cX6_init 68 = .ok (.putfield 36, 3) := dk_181 (by decide +kernel)
theorem dX6_init_71 : decode cX6_init 71 = .ok (.aload_n 0, 1) := dk_42 (by decide +kernel)
theorem dX6_init_72 : decode cX6_init 72 = .ok (.new 11, 3) := dk_187 (by decide +kernel)
theorem dX6_init_75 : decode cX6_init 75 = .ok (.dup, 1) := dk_89 (by decide +kernel)
theorem dX6_init_76 : decode cX6_init 76 = .ok (.invokespecial 28, 3) := dk_183 (by decide +kernel)
theorem dX6_init_79 : decode cX6_init 79 = .ok (.putfield 39, 3) := dk_181 (by decide +kernel)
theorem dX6_init_82 : decode cX6_init 82 = .ok (.aload_n 0, 1) := dk_42 (by decide +kernel)
theorem dX6_init_83 : decode cX6_init 83 = .ok (.new 11, 3) := dk_187 (by decide +kernel)
theorem dX6_init_86 : decode cX6_init 86 = .ok (.dup, 1) := dk_89 (by decide +kernel)
theorem dX6_init_87 : decode cX6_init 87 = .ok (.invokespecial 28, 3) := dk_183 (by decide +kernel)
theorem dX6_init_90 : decode cX6_init 90 = .ok (.putfield 42, 3) := dk_181 (by decide +kernel)
theorem dX6_init_93 : decode cX6_init 93 = .ok (.aload_n 0, 1) := dk_42 (by decide +kernel)
theorem dX6_init_94 : decode cX6_init 94 = .ok (.new 11, 3) := dk_187 (by decide +kernel)
theorem dX6_init_97 : decode cX6_init 97 = .ok (.dup, 1) := dk_89 (by decide +kernel)
theorem dX6_init_98 : decode cX6_init 98 = .ok (.invokespecial 28, 3) := dk_183 (by decide +kernel)
theorem dX6_init_101 : decode cX6_init 101 = .ok (.putfield 45, 3) := dk_181 (by decide +kernel)
theorem dX6_init_104 : decode cX6_init 104 = .ok (.iconst 0, 1) := dk_3 (by decide +kernel)
theorem dX6_init_105 : decode cX6_init 105 = .ok (.istore_n 1, 1) := dk_60 (by decide +kernel)
theorem dX6_init_106 : decode cX6_init 106 = .ok (.iload_n 1, 1) := dk_27 (by decide +kernel)
theorem dX6_init_107 : decode cX6_init 107 = .ok (.sipush 400, 3) := dk_17 (by decide +kernel)
theorem dX6_init_110 : decode cX6_init 110 = .ok (.if_icmp .ge 22, 3) := dk_162 (by decide +kernel)
theorem dX6_init_113 : decode cX6_init 113 = .ok (.aload_n 0, 1) := dk_42 (by decide +kernel)
theorem dX6_init_114 : decode cX6_init 114 = .ok (.getfield 13, 3) := dk_180 (by decide +kernel)
theorem dX6_init_117 : decode cX6_init 117 = .ok (.iload_n 1, 1) := dk_27 (by decide +kernel)
theorem dX6_init_118 : decode cX6_init 118 = .ok (.new 11, 3) := dk_187 (by decide +kernel)
theorem dX6_init_121 : decode cX6_init 121 = .ok (.dup, 1) := dk_89 (by decide +kernel)
theorem dX6_init_122 : decode cX6_init 122 = .ok (.invokespecial 28, 3) := dk_183 (by decide +kernel)
theorem dX6_init_125 : decode cX6_init 125 = .ok (.aastore, 1) := dk_83 (by decide +kernel)
theorem dX6_init_126 : decode cX6_init 126 = .ok (.iinc 1 1, 3) := dk_132 (by decide +kernel)
theorem dX6_init_129 : decode cX6_init 129 = .ok (.goto (-23), 3) := dk_167 (by decide +kernel)
theorem dX6_init_132 : decode cX6_init 132 = .ok (.return_, 1) := dk_177 (by decide +kernel)
def wsKX6_init : List Cond := .code yX6_init cX6_init 2 none :: ([.methodLink RX6 3 objectInit, .instanceMethod objectInit, .code objectInit ⟨#[0xb1]⟩ 1 none, .classLink RX6 11 RX8, .fieldLink RX6 13 "OptimaWorks$Tableau" "cell" "[LOptimaWorks$Whole;", .arrayClass .int, .fieldLink RX6 17 "OptimaWorks$Tableau" "inside" "[I", .fieldLink RX6 21 "OptimaWorks$Tableau" "outside" "[I", .arrayClass .boolean, .fieldLink RX6 24 "OptimaWorks$Tableau" "shut" "[Z", .instantiable RX8 3, .initialized RX8, .instanceMethod yX8_init, .fieldLink RX6 29 "OptimaWorks$Tableau" "under" "LOptimaWorks$Whole;", .fieldLink RX6 33 "OptimaWorks$Tableau" "turning" "LOptimaWorks$Whole;", .fieldLink RX6 36 "OptimaWorks$Tableau" "first" "LOptimaWorks$Whole;", .fieldLink RX6 39 "OptimaWorks$Tableau" "second" "LOptimaWorks$Whole;", .fieldLink RX6 42 "OptimaWorks$Tableau" "rest" "LOptimaWorks$Whole;", .fieldLink RX6 45 "OptimaWorks$Tableau" "spare" "LOptimaWorks$Whole;"] ++ wsX60 ++ wsX80 ++ (wsPX8_init))
theorem iwsKX6_init_in6 : ∀ w ∈ wsX60, w ∈ wsKX6_init := fun _ h => List.mem_cons_of_mem _ (List.mem_append_left _ (List.mem_append_left _ (List.mem_append_right _ h)))
theorem iwsKX6_init_in8 : ∀ w ∈ wsX80, w ∈ wsKX6_init := fun _ h => List.mem_cons_of_mem _ (List.mem_append_left _ (List.mem_append_right _ h))
theorem gwsKX6_init_0 : GoodIn wsKX6_init (wsPX8_init) := goodIn_sub (fun _ h => List.mem_cons_of_mem _ (List.mem_append_right _ h)) (by decide +kernel)
theorem hm_kl_X6_init_0 : (.classLink RX6 11 RX8 : Cond) ∈ wsKX6_init := by decide +kernel
theorem hm_kl_X6_init_1 : (.fieldLink RX6 13 "OptimaWorks$Tableau" "cell" "[LOptimaWorks$Whole;" : Cond) ∈ wsKX6_init := by decide +kernel
theorem hm_kl_X6_init_2 : (.arrayClass .int : Cond) ∈ wsKX6_init := by decide +kernel
theorem hm_kl_X6_init_3 : (.instantiable RX8 3 : Cond) ∈ wsKX6_init := by decide +kernel
theorem hm_kl_X6_init_4 : (.initialized RX8 : Cond) ∈ wsKX6_init := by decide +kernel
theorem hm_kl_X6_init_5 : (.instanceMethod yX8_init : Cond) ∈ wsKX6_init := by decide +kernel
set_option maxHeartbeats 4000000 in
set_option maxRecDepth 100000 in
/-- a tableau -/
theorem kl_X6_init (l : Launch) (dC : Nat → ClassId) (dI : Nat → Nat → Nat) (hQ : Nat → Nat) (kb kw kI kZ : ClassId) (sz : Nat) : Met l yX6_init wsKX6_init ({ frames := 3, cells := 816, slots := 7424, locals := 60 }) (va_Pc [.ref (hQ 0)] (fun U => U.heap.size = sz ∧ va_P (dC, dI) vwCl ([(hQ 0, .inr (6, [.null, .null, .null, .null, .null, .int 0, .int 0, .int 0, .null, .null, .null, .null, .null]))]) U.heap ∧ va_K (dC, dI) vwCl [(kb, .object "OptimaWorks$Whole"), (kw, .long), (kI, .int), (kZ, .boolean)] U ∧ va_D (fun _ => True) ([(hQ 0, .inr (6, [.null, .null, .null, .null, .null, .int 0, .int 0, .int 0, .null, .null, .null, .null, .null]))]) ∧ CE (va_A ([(hQ 0, .inr (6, [.null, .null, .null, .null, .null, .int 0, .int 0, .int 0, .null, .null, .null, .null, .null]))]) sz) U U.heap)) (va_Qv (fun (u : (Nat → Nat) × (Nat → Nat) × (Nat → Nat)) => True) (fun u t => va_P (dC, dI) vwCl (WQ hQ u.1 (fun j => ([kb, kI, kI, kZ] : List ClassId).getD j kb) u.2.1 (fun _ => 0) (fun _ => 0) (fun _ => 0) 0 0 0 ++ (WW 406 u.2.1 u.2.2 kw (fun _ => 0) (fun _ => 0) (fun _ _ => 0))) t.heap ∧ va_D (va_A ([(hQ 0, .inr (6, [.null, .null, .null, .null, .null, .int 0, .int 0, .int 0, .null, .null, .null, .null, .null]))]) sz) (WQ hQ u.1 (fun j => ([kb, kI, kI, kZ] : List ClassId).getD j kb) u.2.1 (fun _ => 0) (fun _ => 0) (fun _ => 0) 0 0 0 ++ (WW 406 u.2.1 u.2.2 kw (fun _ => 0) (fun _ => 0) (fun _ _ => 0)))) (va_A ([(hQ 0, .inr (6, [.null, .null, .null, .null, .null, .int 0, .int 0, .int 0, .null, .null, .null, .null, .null]))]) sz)) 816 7424 (va_A ([(hQ 0, .inr (6, [.null, .null, .null, .null, .null, .int 0, .int 0, .int 0, .null, .null, .null, .null, .null]))]) sz) := by
  refine Met.ofW (cc := cX6_init) (maxL := 2) (ret := none) (by decide) rfl ?_
  intro p e s m args below meth c s₁ B hml hv
  obtain ⟨rfl, hsz, hP, hK, hD0, hE⟩ := hv
  have hx := B.exec
  have hb := B.bytes
  have hr := B.returns
  have hts := atoms_spec (ws := wsKX6_init) B.pre
  have hown : s.vm.findClass RX6 = some m.cls := findClass_of_methodNamed B.named
  have hin : meth.name = "<init>" := (name_of_methodNamed B.named B.method).1
  subst hsz
  have hD := hD0.self (sz := s.heap.size)
  generalize hAe : va_A ([(hQ 0, .inr (6, [.null, .null, .null, .null, .null, .int 0, .int 0, .int 0, .null, .null, .null, .null, .null]))]) s.heap.size = A at hD hE ⊢
  have hA : ∀ q : Nat, s.heap.size ≤ q → A q := fun q h => by rw [← hAe]; exact Or.inr h
  have hS : va_S A s.heap s.heap [] := va_S.rf
  have hl := lv_entry ([.ref (hQ 0)]) (n := 2) (Nat.le_of_ble_eq_true rfl)
  rw [lg_entry_eq]
  generalize (lg_sl ([.ref (hQ 0)]) ++ List.replicate (2 - (lg_sl ([.ref (hQ 0)])).length) Slot.unset).toArray = ls at hl ⊢
  have hl : lv_has ls 2 [(0, .ref (hQ 0))] := hl
  refine lv_aload_n hx hb dX6_init_0 rfl (lv_at hl 0 rfl) ?_
  refine W.objInit hx hb hown (hts (.methodLink RX6 3 objectInit) (by decide +kernel)) (hts (.instanceMethod objectInit) (by decide +kernel)) (hts (.code objectInit ⟨#[0xb1]⟩ 1 none) (by decide +kernel)) rfl (by rw [hml]; exact hl.1) rfl dX6_init_1 (by decide +kernel) (Nat.le_of_ble_eq_true rfl) ?_
  refine W.eq (g2 := F0 m 4 ls []) rfl ?_
  refine lv_aload_n hx hb dX6_init_4 rfl (lv_at hl 0 rfl) ?_
  refine lv_sipush (v := 400) hx hb dX6_init_5 (by decide) ?_
  refine va_newq (C := "OptimaWorks$Whole") (N' := 400) hx hb hown (hts _ hm_kl_X6_init_0) hE.2.2.1.2.2.2.2.2 hK hP hD hS hA (by decide) (by decide) (by decide +kernel) (by first | decide +kernel | (dsimp only [headSpec] <;> omega)) (by first | decide +kernel | (dsimp only [headSpec] <;> omega)) dX6_init_8 (fun q8 cA H hKn hP hD hS => ?_)
  obtain rfl : kb = cA := (va_K.cl2 hKn hK (i := 4) (j := 0) rfl rfl).symm
  clear hKn
  have hP : va_P (dC, dI) vwCl ([(kc6 (hQ 0) .null .null .null .null .null (.int 0) (.int 0) (.int 0) .null .null .null .null .null), (q8, .inl (kb, 400, .inr (.inr (.inr (.inr (fun _ => none))))))]) H := hP
  have hD := fz_sd hP (hD) rfl
  refine W.widen (k := 1) (n := 400) (by omega) (by omega) ?_
  refine va_putF (D := (dC, dI)) (ci := 6) (v := .ref q8) (ty := .array (.object "OptimaWorks$Whole")) (C := RX6) (T := TX6) (N := 13) hx hb hts iwsKX6_init_in6 tyX6 tyX6_ok nmX6 hown hK hP hD hS 0 rfl rfl 0 (by decide) (hts _ hm_kl_X6_init_1) (fun _ h9 => h9) rfl hin rfl (by decide +kernel) rfl rfl (Nat.le_of_ble_eq_true rfl) dX6_init_11 (fun H locs hP hD hS => ?_)
  have hP : va_P (dC, dI) vwCl ([(kc6 (hQ 0) (.ref q8) .null .null .null .null (.int 0) (.int 0) (.int 0) .null .null .null .null .null), (q8, .inl (kb, 400, .inr (.inr (.inr (.inr (fun _ => none))))))]) H := hP
  have hD := fz_sd hP (hD) rfl
  refine lv_aload_n hx hb dX6_init_14 rfl (lv_at hl 0 rfl) ?_
  refine lv_bipush (v := 40) hx hb dX6_init_15 (by decide) ?_
  refine va_newa (atype := .int) (ty := .int) (N' := 40) (a0 := (40, .inl (fun _ => 0))) hx hb (hts _ hm_kl_X6_init_2) rfl hK hP hD hS hA (fun _ => rfl) (by decide) (by decide) (by decide +kernel) (by first | decide +kernel | (dsimp only [headSpec] <;> omega)) (by first | decide +kernel | (dsimp only [headSpec] <;> omega)) dX6_init_17 (fun q17 cA H hKn hP hD hS => ?_)
  obtain rfl : kI = cA := (va_K.cl2 hKn hK (i := 4) (j := 2) rfl rfl).symm
  clear hKn
  have hP : va_P (dC, dI) vwCl ([(kc6 (hQ 0) (.ref q8) .null .null .null .null (.int 0) (.int 0) (.int 0) .null .null .null .null .null), (q8, .inl (kb, 400, .inr (.inr (.inr (.inr (fun _ => none)))))), (kr0 q17 kI 40)]) H := hP
  have hD := fz_sd hP (hD) rfl
  refine W.widen (k := 2) (n := 440) (by omega) (by omega) ?_
  refine va_putF (D := (dC, dI)) (ci := 6) (v := .ref q17) (ty := .array .int) (C := RX6) (T := TX6) (N := 13) hx hb hts iwsKX6_init_in6 tyX6 tyX6_ok nmX6 hown hK hP hD hS 0 rfl rfl 1 (by decide) (hts (.fieldLink RX6 17 "OptimaWorks$Tableau" "inside" "[I") (by decide +kernel)) (fun _ h9 => h9) rfl hin rfl (by decide +kernel) rfl rfl (Nat.le_of_ble_eq_true rfl) dX6_init_19 (fun H locs hP hD hS => ?_)
  have hP : va_P (dC, dI) vwCl ([(kc6 (hQ 0) (.ref q8) (.ref q17) .null .null .null (.int 0) (.int 0) (.int 0) .null .null .null .null .null), (q8, .inl (kb, 400, .inr (.inr (.inr (.inr (fun _ => none)))))), (kr0 q17 kI 40)]) H := hP
  have hD := fz_sd hP (hD) rfl
  refine lv_aload_n hx hb dX6_init_22 rfl (lv_at hl 0 rfl) ?_
  refine lv_bipush (v := 41) hx hb dX6_init_23 (by decide) ?_
  refine va_newa (atype := .int) (ty := .int) (N' := 41) (a0 := (41, .inl (fun _ => 0))) hx hb (hts _ hm_kl_X6_init_2) rfl hK hP hD hS hA (fun _ => rfl) (by decide) (by decide) (by decide +kernel) (by first | decide +kernel | (dsimp only [headSpec] <;> omega)) (by first | decide +kernel | (dsimp only [headSpec] <;> omega)) dX6_init_25 (fun q25 cA H hKn hP hD hS => ?_)
  obtain rfl : kI = cA := (va_K.cl2 hKn hK (i := 4) (j := 2) rfl rfl).symm
  clear hKn
  have hP : va_P (dC, dI) vwCl ([(kc6 (hQ 0) (.ref q8) (.ref q17) .null .null .null (.int 0) (.int 0) (.int 0) .null .null .null .null .null), (q8, .inl (kb, 400, .inr (.inr (.inr (.inr (fun _ => none)))))), (kr0 q17 kI 40), (kr0 q25 kI 41)]) H := hP
  have hD := fz_sd hP (hD) rfl
  refine W.widen (k := 3) (n := 481) (by omega) (by omega) ?_
  refine va_putF (D := (dC, dI)) (ci := 6) (v := .ref q25) (ty := .array .int) (C := RX6) (T := TX6) (N := 13) hx hb hts iwsKX6_init_in6 tyX6 tyX6_ok nmX6 hown hK hP hD hS 0 rfl rfl 2 (by decide) (hts (.fieldLink RX6 21 "OptimaWorks$Tableau" "outside" "[I") (by decide +kernel)) (fun _ h9 => h9) rfl hin rfl (by decide +kernel) rfl rfl (Nat.le_of_ble_eq_true rfl) dX6_init_27 (fun H locs hP hD hS => ?_)
  have hP : va_P (dC, dI) vwCl ([(kc6 (hQ 0) (.ref q8) (.ref q17) (.ref q25) .null .null (.int 0) (.int 0) (.int 0) .null .null .null .null .null), (q8, .inl (kb, 400, .inr (.inr (.inr (.inr (fun _ => none)))))), (kr0 q17 kI 40), (kr0 q25 kI 41)]) H := hP
  have hD := fz_sd hP (hD) rfl
  refine lv_aload_n hx hb dX6_init_30 rfl (lv_at hl 0 rfl) ?_
  refine lv_bipush (v := 41) hx hb dX6_init_31 (by decide) ?_
  refine va_newa (atype := .boolean) (ty := .boolean) (N' := 41) (a0 := (41, .inl (fun _ => 0))) hx hb (hts (.arrayClass .boolean) (by decide +kernel)) rfl hK hP hD hS hA (fun _ => rfl) (by decide) (by decide) (by decide +kernel) (by first | decide +kernel | (dsimp only [headSpec] <;> omega)) (by first | decide +kernel | (dsimp only [headSpec] <;> omega)) dX6_init_33 (fun q33 cA H hKn hP hD hS => ?_)
  obtain rfl : kZ = cA := (va_K.cl2 hKn hK (i := 4) (j := 3) rfl rfl).symm
  clear hKn
  have hP : va_P (dC, dI) vwCl ([(kc6 (hQ 0) (.ref q8) (.ref q17) (.ref q25) .null .null (.int 0) (.int 0) (.int 0) .null .null .null .null .null), (q8, .inl (kb, 400, .inr (.inr (.inr (.inr (fun _ => none)))))), (kr0 q17 kI 40), (kr0 q25 kI 41), (kr0 q33 kZ 41)]) H := hP
  have hD := fz_sd hP (hD) rfl
  refine W.widen (k := 4) (n := 522) (by omega) (by omega) ?_
  refine va_putF (D := (dC, dI)) (ci := 6) (v := .ref q33) (ty := .array .boolean) (C := RX6) (T := TX6) (N := 13) hx hb hts iwsKX6_init_in6 tyX6 tyX6_ok nmX6 hown hK hP hD hS 0 rfl rfl 3 (by decide) (hts (.fieldLink RX6 24 "OptimaWorks$Tableau" "shut" "[Z") (by decide +kernel)) (fun _ h9 => h9) rfl hin rfl (by decide +kernel) rfl rfl (Nat.le_of_ble_eq_true rfl) dX6_init_35 (fun H locs hP hD hS => ?_)
  have hP : va_P (dC, dI) vwCl ([(kc6 (hQ 0) (.ref q8) (.ref q17) (.ref q25) (.ref q33) .null (.int 0) (.int 0) (.int 0) .null .null .null .null .null), (q8, .inl (kb, 400, .inr (.inr (.inr (.inr (fun _ => none)))))), (kr0 q17 kI 40), (kr0 q25 kI 41), (kr0 q33 kZ 41)]) H := hP
  have hD := fz_sd hP (hD) rfl
  refine lv_aload_n hx hb dX6_init_38 rfl (lv_at hl 0 rfl) ?_
  refine va_new (ci := 8) (fs := [.null, .int 0, .int 0]) (C := RX8) (T := TX8) (N := 3) hx hb hts iwsKX6_init_in8 tyX8 tyX8_ok hown (hts _ hm_kl_X6_init_0) (hts _ hm_kl_X6_init_3) (hts _ hm_kl_X6_init_4) hK hP hD hS hA rfl (by decide +kernel) (by first | decide +kernel | (dsimp only [headSpec] <;> omega)) (by first | decide +kernel | (dsimp only [headSpec] <;> omega)) dX6_init_39 (fun q39 H hP hD hS => ?_)
  refine lv_dup hx hb dX6_init_42 rfl ?_
  have p9 : List.Perm (α := Nat × va_E) (([(kc6 (hQ 0) (.ref q8) (.ref q17) (.ref q25) (.ref q33) .null (.int 0) (.int 0) (.int 0) .null .null .null .null .null), (q8, .inl (kb, 400, .inr (.inr (.inr (.inr (fun _ => none)))))), (kr0 q17 kI 40), (kr0 q25 kI 41), (kr0 q33 kZ 41)]) ++ [(q39, .inr (8, [.null, .int 0, .int 0]))]) ([(q39, .inr (8, [.null, .int 0, .int 0]))] ++ ([(kc6 (hQ 0) (.ref q8) (.ref q17) (.ref q25) (.ref q33) .null (.int 0) (.int 0) (.int 0) .null .null .null .null .null), (q8, .inl (kb, 400, .inr (.inr (.inr (.inr (fun _ => none)))))), (kr0 q17 kI 40), (kr0 q25 kI 41), (kr0 q33 kZ 41)])) := List.perm_append_comm
  have hPc := hP.mem (fun q h => p9.mem_iff.mpr (List.mem_append_left _ h))
  have hDc := (hD.perm p9).left
  have hKc : va_K (dC, dI) vwCl ([]) _ := hK.sub [] rfl
  have hFc := freeG p9 hD hS hA
  refine va_callv (va_runIN (As := []) (rest := [.ref q39, .ref (hQ 0)]) ⟨hx, hb, hml, hown, hts⟩ (p_X8_init l dC dI q39 H.size) ⟨va_cnB 0 hts gwsKX6_init_0 rfl rfl rfl (hE.2.2.1.2.2.2.2.1 (.methodLinkNest RX6 28 yX8_init RX11) (by decide +kernel)) (hts _ hm_kl_X6_init_4) (by decide +kernel) ⟨by first | decide +kernel | (dsimp only [headSpec] <;> omega), by first | decide +kernel | (dsimp only [headSpec] <;> omega)⟩, rfl, (hts _ hm_kl_X6_init_5)⟩ ⟨fun a U g mk q => by obtain ⟨q0, q1, qP, qK, qD⟩ := q; exact ⟨q0, q1, qP, va_K.moved (u := U) (U := U.calling g mk a) (Vm.Alike.refl U.vm) qK, qD⟩, fun U hU hW => ⟨rfl, by rw [hU], by rw [hU]; exact hPc, va_K.moved hW.alike hKc, hDc.weaken (fun _ _ _ _ => trivial)⟩⟩ rfl rfl hl.1 rfl (lv_room (Nat.le_of_ble_eq_true rfl)) dX6_init_43 ⟨by first | decide +kernel | (dsimp only [headSpec] <;> omega), by first | decide +kernel | (dsimp only [headSpec] <;> omega)⟩) hS (fun q _ h => hFc q h) hFc (fun u t H1 locs ht hvm hw hB hz1 hk1 hS => ?_)
  obtain ⟨y39, k9⟩ := u
  obtain ⟨hP1, hK1, hD1⟩ := hB
  dsimp only at hP1 hK1 hD1
  rw [ht] at hP1
  have hK1 := va_K.moved hvm.symm hK1
  obtain rfl : kw = k9 := (va_K.cl2 hK1 hK (i := 0) (j := 1) rfl rfl).symm
  clear hK1 hw
  have p8 : List.Perm (α := Nat × va_E) ([(kc6 (hQ 0) (.ref q8) (.ref q17) (.ref q25) (.ref q33) .null (.int 0) (.int 0) (.int 0) .null .null .null .null .null), (q8, .inl (kb, 400, .inr (.inr (.inr (.inr (fun _ => none)))))), (kr0 q17 kI 40), (kr0 q25 kI 41), (kr0 q33 kZ 41)] ++ ([(q39, .inr (8, [.ref y39, .int 0, .int 0])), (kl0 y39 kw 14)] ++ ([]))) ([(q39, .inr (8, [.ref y39, .int 0, .int 0])), (kl0 y39 kw 14)] ++ ([(kc6 (hQ 0) (.ref q8) (.ref q17) (.ref q25) (.ref q33) .null (.int 0) (.int 0) (.int 0) .null .null .null .null .null), (q8, .inl (kb, 400, .inr (.inr (.inr (.inr (fun _ => none)))))), (kr0 q17 kI 40), (kr0 q25 kI 41), (kr0 q33 kZ 41)])) := (List.perm_append_comm_assoc _ _ _).trans (List.Perm.of_eq (by simp only [List.append_nil]))
  obtain ⟨hP, hD⟩ := frameG p9 p8 hP hD hk1 hFc hP1 hD1
  generalize H1 = H at hP hS ⊢
  clear p9 p8 hPc hDc hKc hFc hP1 hD1 hk1 hz1
  obtain ⟨T9_0, eT9_0⟩ : ∃ t9 : va_W, t9 = WW 1 (fun _ => q39) (fun _ => y39) kw (fun _ => 0) (fun _ => 0) (fun _ _ => 0) := ⟨_, rfl⟩
  have hP : va_P (dC, dI) vwCl ([(kc6 (hQ 0) (.ref q8) (.ref q17) (.ref q25) (.ref q33) .null (.int 0) (.int 0) (.int 0) .null .null .null .null .null), (q8, .inl (kb, 400, .inr (.inr (.inr (.inr (fun _ => none)))))), (kr0 q17 kI 40), (kr0 q25 kI 41), (kr0 q33 kZ 41)] ++ (T9_0)) H := by rw [eT9_0]; exact hP
  have hD : va_D A ([(kc6 (hQ 0) (.ref q8) (.ref q17) (.ref q25) (.ref q33) .null (.int 0) (.int 0) (.int 0) .null .null .null .null .null), (q8, .inl (kb, 400, .inr (.inr (.inr (.inr (fun _ => none)))))), (kr0 q17 kI 40), (kr0 q25 kI 41), (kr0 q33 kZ 41)] ++ (T9_0)) := by rw [eT9_0]; exact hD
  refine W.widen (k := 6) (n := 539) (by omega) (by omega) ?_
  refine va_putF (D := (dC, dI)) (ci := 6) (v := .ref q39) (ty := .object "OptimaWorks$Whole") (C := RX6) (T := TX6) (N := 13) hx hb hts iwsKX6_init_in6 tyX6 tyX6_ok nmX6 hown hK hP hD hS 0 rfl rfl 4 (by decide) (hts (.fieldLink RX6 29 "OptimaWorks$Tableau" "under" "LOptimaWorks$Whole;") (by decide +kernel)) (fun _ h9 => h9) rfl hin rfl (by decide +kernel) rfl rfl (Nat.le_of_ble_eq_true rfl) dX6_init_46 (fun H locs hP hD hS => ?_)
  have hP : va_P (dC, dI) vwCl ([(kc6 (hQ 0) (.ref q8) (.ref q17) (.ref q25) (.ref q33) (.ref q39) (.int 0) (.int 0) (.int 0) .null .null .null .null .null), (q8, .inl (kb, 400, .inr (.inr (.inr (.inr (fun _ => none)))))), (kr0 q17 kI 40), (kr0 q25 kI 41), (kr0 q33 kZ 41)] ++ (T9_0)) H := hP
  have hD := fz_sd hP (hD) rfl
  refine lv_aload_n hx hb dX6_init_49 rfl (lv_at hl 0 rfl) ?_
  refine va_new (ci := 8) (fs := [.null, .int 0, .int 0]) (C := RX8) (T := TX8) (N := 3) hx hb hts iwsKX6_init_in8 tyX8 tyX8_ok hown (hts _ hm_kl_X6_init_0) (hts _ hm_kl_X6_init_3) (hts _ hm_kl_X6_init_4) hK hP hD hS hA rfl (by decide +kernel) (by first | decide +kernel | (dsimp only [headSpec] <;> omega)) (by first | decide +kernel | (dsimp only [headSpec] <;> omega)) dX6_init_50 (fun q50 H hP hD hS => ?_)
  refine lv_dup hx hb dX6_init_53 rfl ?_
  have p9 : List.Perm (α := Nat × va_E) (([(kc6 (hQ 0) (.ref q8) (.ref q17) (.ref q25) (.ref q33) (.ref q39) (.int 0) (.int 0) (.int 0) .null .null .null .null .null), (q8, .inl (kb, 400, .inr (.inr (.inr (.inr (fun _ => none)))))), (kr0 q17 kI 40), (kr0 q25 kI 41), (kr0 q33 kZ 41)] ++ (T9_0)) ++ [(q50, .inr (8, [.null, .int 0, .int 0]))]) ([(q50, .inr (8, [.null, .int 0, .int 0]))] ++ ([(kc6 (hQ 0) (.ref q8) (.ref q17) (.ref q25) (.ref q33) (.ref q39) (.int 0) (.int 0) (.int 0) .null .null .null .null .null), (q8, .inl (kb, 400, .inr (.inr (.inr (.inr (fun _ => none)))))), (kr0 q17 kI 40), (kr0 q25 kI 41), (kr0 q33 kZ 41)] ++ (T9_0))) := List.perm_append_comm
  have hPc := hP.mem (fun q h => p9.mem_iff.mpr (List.mem_append_left _ h))
  have hDc := (hD.perm p9).left
  have hKc : va_K (dC, dI) vwCl ([]) _ := hK.sub [] rfl
  have hFc := freeG p9 hD hS hA
  refine va_callv (va_runIN (As := []) (rest := [.ref q50, .ref (hQ 0)]) ⟨hx, hb, hml, hown, hts⟩ (p_X8_init l dC dI q50 H.size) ⟨va_cnB 0 hts gwsKX6_init_0 rfl rfl rfl (hE.2.2.1.2.2.2.2.1 (.methodLinkNest RX6 28 yX8_init RX11) (by decide +kernel)) (hts _ hm_kl_X6_init_4) (by decide +kernel) ⟨by first | decide +kernel | (dsimp only [headSpec] <;> omega), by first | decide +kernel | (dsimp only [headSpec] <;> omega)⟩, rfl, (hts _ hm_kl_X6_init_5)⟩ ⟨fun a U g mk q => by obtain ⟨q0, q1, qP, qK, qD⟩ := q; exact ⟨q0, q1, qP, va_K.moved (u := U) (U := U.calling g mk a) (Vm.Alike.refl U.vm) qK, qD⟩, fun U hU hW => ⟨rfl, by rw [hU], by rw [hU]; exact hPc, va_K.moved hW.alike hKc, hDc.weaken (fun _ _ _ _ => trivial)⟩⟩ rfl rfl hl.1 rfl (lv_room (Nat.le_of_ble_eq_true rfl)) dX6_init_54 ⟨by first | decide +kernel | (dsimp only [headSpec] <;> omega), by first | decide +kernel | (dsimp only [headSpec] <;> omega)⟩) hS (fun q _ h => hFc q h) hFc (fun u t H1 locs ht hvm hw hB hz1 hk1 hS => ?_)
  obtain ⟨y50, k9⟩ := u
  obtain ⟨hP1, hK1, hD1⟩ := hB
  dsimp only at hP1 hK1 hD1
  rw [ht] at hP1
  have hK1 := va_K.moved hvm.symm hK1
  obtain rfl : kw = k9 := (va_K.cl2 hK1 hK (i := 0) (j := 1) rfl rfl).symm
  clear hK1 hw
  have p8 : List.Perm (α := Nat × va_E) ([(kc6 (hQ 0) (.ref q8) (.ref q17) (.ref q25) (.ref q33) (.ref q39) (.int 0) (.int 0) (.int 0) .null .null .null .null .null), (q8, .inl (kb, 400, .inr (.inr (.inr (.inr (fun _ => none)))))), (kr0 q17 kI 40), (kr0 q25 kI 41), (kr0 q33 kZ 41)] ++ ([(q50, .inr (8, [.ref y50, .int 0, .int 0])), (kl0 y50 kw 14)] ++ (T9_0))) ([(q50, .inr (8, [.ref y50, .int 0, .int 0])), (kl0 y50 kw 14)] ++ ([(kc6 (hQ 0) (.ref q8) (.ref q17) (.ref q25) (.ref q33) (.ref q39) (.int 0) (.int 0) (.int 0) .null .null .null .null .null), (q8, .inl (kb, 400, .inr (.inr (.inr (.inr (fun _ => none)))))), (kr0 q17 kI 40), (kr0 q25 kI 41), (kr0 q33 kZ 41)] ++ (T9_0))) := List.perm_append_comm_assoc _ _ _
  obtain ⟨hP, hD⟩ := frameG p9 p8 hP hD hk1 hFc hP1 hD1
  generalize H1 = H at hP hS ⊢
  clear p9 p8 hPc hDc hKc hFc hP1 hD1 hk1 hz1
  obtain ⟨T9_1, eT9_1⟩ : ∃ t9 : va_W, t9 = WW 1 (fun _ => q50) (fun _ => y50) kw (fun _ => 0) (fun _ => 0) (fun _ _ => 0) ++ (T9_0) := ⟨_, rfl⟩
  have hP : va_P (dC, dI) vwCl ([(kc6 (hQ 0) (.ref q8) (.ref q17) (.ref q25) (.ref q33) (.ref q39) (.int 0) (.int 0) (.int 0) .null .null .null .null .null), (q8, .inl (kb, 400, .inr (.inr (.inr (.inr (fun _ => none)))))), (kr0 q17 kI 40), (kr0 q25 kI 41), (kr0 q33 kZ 41)] ++ (T9_1)) H := by rw [eT9_1]; exact hP
  have hD : va_D A ([(kc6 (hQ 0) (.ref q8) (.ref q17) (.ref q25) (.ref q33) (.ref q39) (.int 0) (.int 0) (.int 0) .null .null .null .null .null), (q8, .inl (kb, 400, .inr (.inr (.inr (.inr (fun _ => none)))))), (kr0 q17 kI 40), (kr0 q25 kI 41), (kr0 q33 kZ 41)] ++ (T9_1)) := by rw [eT9_1]; exact hD
  refine W.widen (k := 8) (n := 556) (by omega) (by omega) ?_
  refine va_putF (D := (dC, dI)) (ci := 6) (v := .ref q50) (ty := .object "OptimaWorks$Whole") (C := RX6) (T := TX6) (N := 13) hx hb hts iwsKX6_init_in6 tyX6 tyX6_ok nmX6 hown hK hP hD hS 0 rfl rfl 8 (by decide) (hts (.fieldLink RX6 33 "OptimaWorks$Tableau" "turning" "LOptimaWorks$Whole;") (by decide +kernel)) (fun _ h9 => h9) rfl hin rfl (by decide +kernel) rfl rfl (Nat.le_of_ble_eq_true rfl) dX6_init_57 (fun H locs hP hD hS => ?_)
  have hP : va_P (dC, dI) vwCl ([(kc6 (hQ 0) (.ref q8) (.ref q17) (.ref q25) (.ref q33) (.ref q39) (.int 0) (.int 0) (.int 0) (.ref q50) .null .null .null .null), (q8, .inl (kb, 400, .inr (.inr (.inr (.inr (fun _ => none)))))), (kr0 q17 kI 40), (kr0 q25 kI 41), (kr0 q33 kZ 41)] ++ (T9_1)) H := hP
  have hD := fz_sd hP (hD) rfl
  refine lv_aload_n hx hb dX6_init_60 rfl (lv_at hl 0 rfl) ?_
  refine va_new (ci := 8) (fs := [.null, .int 0, .int 0]) (C := RX8) (T := TX8) (N := 3) hx hb hts iwsKX6_init_in8 tyX8 tyX8_ok hown (hts _ hm_kl_X6_init_0) (hts _ hm_kl_X6_init_3) (hts _ hm_kl_X6_init_4) hK hP hD hS hA rfl (by decide +kernel) (by first | decide +kernel | (dsimp only [headSpec] <;> omega)) (by first | decide +kernel | (dsimp only [headSpec] <;> omega)) dX6_init_61 (fun q61 H hP hD hS => ?_)
  refine lv_dup hx hb dX6_init_64 rfl ?_
  have p9 : List.Perm (α := Nat × va_E) (([(kc6 (hQ 0) (.ref q8) (.ref q17) (.ref q25) (.ref q33) (.ref q39) (.int 0) (.int 0) (.int 0) (.ref q50) .null .null .null .null), (q8, .inl (kb, 400, .inr (.inr (.inr (.inr (fun _ => none)))))), (kr0 q17 kI 40), (kr0 q25 kI 41), (kr0 q33 kZ 41)] ++ (T9_1)) ++ [(q61, .inr (8, [.null, .int 0, .int 0]))]) ([(q61, .inr (8, [.null, .int 0, .int 0]))] ++ ([(kc6 (hQ 0) (.ref q8) (.ref q17) (.ref q25) (.ref q33) (.ref q39) (.int 0) (.int 0) (.int 0) (.ref q50) .null .null .null .null), (q8, .inl (kb, 400, .inr (.inr (.inr (.inr (fun _ => none)))))), (kr0 q17 kI 40), (kr0 q25 kI 41), (kr0 q33 kZ 41)] ++ (T9_1))) := List.perm_append_comm
  have hPc := hP.mem (fun q h => p9.mem_iff.mpr (List.mem_append_left _ h))
  have hDc := (hD.perm p9).left
  have hKc : va_K (dC, dI) vwCl ([]) _ := hK.sub [] rfl
  have hFc := freeG p9 hD hS hA
  refine va_callv (va_runIN (As := []) (rest := [.ref q61, .ref (hQ 0)]) ⟨hx, hb, hml, hown, hts⟩ (p_X8_init l dC dI q61 H.size) ⟨va_cnB 0 hts gwsKX6_init_0 rfl rfl rfl (hE.2.2.1.2.2.2.2.1 (.methodLinkNest RX6 28 yX8_init RX11) (by decide +kernel)) (hts _ hm_kl_X6_init_4) (by decide +kernel) ⟨by first | decide +kernel | (dsimp only [headSpec] <;> omega), by first | decide +kernel | (dsimp only [headSpec] <;> omega)⟩, rfl, (hts _ hm_kl_X6_init_5)⟩ ⟨fun a U g mk q => by obtain ⟨q0, q1, qP, qK, qD⟩ := q; exact ⟨q0, q1, qP, va_K.moved (u := U) (U := U.calling g mk a) (Vm.Alike.refl U.vm) qK, qD⟩, fun U hU hW => ⟨rfl, by rw [hU], by rw [hU]; exact hPc, va_K.moved hW.alike hKc, hDc.weaken (fun _ _ _ _ => trivial)⟩⟩ rfl rfl hl.1 rfl (lv_room (Nat.le_of_ble_eq_true rfl)) dX6_init_65 ⟨by first | decide +kernel | (dsimp only [headSpec] <;> omega), by first | decide +kernel | (dsimp only [headSpec] <;> omega)⟩) hS (fun q _ h => hFc q h) hFc (fun u t H1 locs ht hvm hw hB hz1 hk1 hS => ?_)
  obtain ⟨y61, k9⟩ := u
  obtain ⟨hP1, hK1, hD1⟩ := hB
  dsimp only at hP1 hK1 hD1
  rw [ht] at hP1
  have hK1 := va_K.moved hvm.symm hK1
  obtain rfl : kw = k9 := (va_K.cl2 hK1 hK (i := 0) (j := 1) rfl rfl).symm
  clear hK1 hw
  have p8 : List.Perm (α := Nat × va_E) ([(kc6 (hQ 0) (.ref q8) (.ref q17) (.ref q25) (.ref q33) (.ref q39) (.int 0) (.int 0) (.int 0) (.ref q50) .null .null .null .null), (q8, .inl (kb, 400, .inr (.inr (.inr (.inr (fun _ => none)))))), (kr0 q17 kI 40), (kr0 q25 kI 41), (kr0 q33 kZ 41)] ++ ([(q61, .inr (8, [.ref y61, .int 0, .int 0])), (kl0 y61 kw 14)] ++ (T9_1))) ([(q61, .inr (8, [.ref y61, .int 0, .int 0])), (kl0 y61 kw 14)] ++ ([(kc6 (hQ 0) (.ref q8) (.ref q17) (.ref q25) (.ref q33) (.ref q39) (.int 0) (.int 0) (.int 0) (.ref q50) .null .null .null .null), (q8, .inl (kb, 400, .inr (.inr (.inr (.inr (fun _ => none)))))), (kr0 q17 kI 40), (kr0 q25 kI 41), (kr0 q33 kZ 41)] ++ (T9_1))) := List.perm_append_comm_assoc _ _ _
  obtain ⟨hP, hD⟩ := frameG p9 p8 hP hD hk1 hFc hP1 hD1
  generalize H1 = H at hP hS ⊢
  clear p9 p8 hPc hDc hKc hFc hP1 hD1 hk1 hz1
  obtain ⟨T9_2, eT9_2⟩ : ∃ t9 : va_W, t9 = WW 1 (fun _ => q61) (fun _ => y61) kw (fun _ => 0) (fun _ => 0) (fun _ _ => 0) ++ (T9_1) := ⟨_, rfl⟩
  have hP : va_P (dC, dI) vwCl ([(kc6 (hQ 0) (.ref q8) (.ref q17) (.ref q25) (.ref q33) (.ref q39) (.int 0) (.int 0) (.int 0) (.ref q50) .null .null .null .null), (q8, .inl (kb, 400, .inr (.inr (.inr (.inr (fun _ => none)))))), (kr0 q17 kI 40), (kr0 q25 kI 41), (kr0 q33 kZ 41)] ++ (T9_2)) H := by rw [eT9_2]; exact hP
  have hD : va_D A ([(kc6 (hQ 0) (.ref q8) (.ref q17) (.ref q25) (.ref q33) (.ref q39) (.int 0) (.int 0) (.int 0) (.ref q50) .null .null .null .null), (q8, .inl (kb, 400, .inr (.inr (.inr (.inr (fun _ => none)))))), (kr0 q17 kI 40), (kr0 q25 kI 41), (kr0 q33 kZ 41)] ++ (T9_2)) := by rw [eT9_2]; exact hD
  refine W.widen (k := 10) (n := 573) (by omega) (by omega) ?_
  refine va_putF (D := (dC, dI)) (ci := 6) (v := .ref q61) (ty := .object "OptimaWorks$Whole") (C := RX6) (T := TX6) (N := 13) hx hb hts iwsKX6_init_in6 tyX6 tyX6_ok nmX6 hown hK hP hD hS 0 rfl rfl 9 (by decide) (hts (.fieldLink RX6 36 "OptimaWorks$Tableau" "first" "LOptimaWorks$Whole;") (by decide +kernel)) (fun _ h9 => h9) rfl hin rfl (by decide +kernel) rfl rfl (Nat.le_of_ble_eq_true rfl) dX6_init_68 (fun H locs hP hD hS => ?_)
  have hP : va_P (dC, dI) vwCl ([(kc6 (hQ 0) (.ref q8) (.ref q17) (.ref q25) (.ref q33) (.ref q39) (.int 0) (.int 0) (.int 0) (.ref q50) (.ref q61) .null .null .null), (q8, .inl (kb, 400, .inr (.inr (.inr (.inr (fun _ => none)))))), (kr0 q17 kI 40), (kr0 q25 kI 41), (kr0 q33 kZ 41)] ++ (T9_2)) H := hP
  have hD := fz_sd hP (hD) rfl
  refine lv_aload_n hx hb dX6_init_71 rfl (lv_at hl 0 rfl) ?_
  refine va_new (ci := 8) (fs := [.null, .int 0, .int 0]) (C := RX8) (T := TX8) (N := 3) hx hb hts iwsKX6_init_in8 tyX8 tyX8_ok hown (hts _ hm_kl_X6_init_0) (hts _ hm_kl_X6_init_3) (hts _ hm_kl_X6_init_4) hK hP hD hS hA rfl (by decide +kernel) (by first | decide +kernel | (dsimp only [headSpec] <;> omega)) (by first | decide +kernel | (dsimp only [headSpec] <;> omega)) dX6_init_72 (fun q72 H hP hD hS => ?_)
  refine lv_dup hx hb dX6_init_75 rfl ?_
  have p9 : List.Perm (α := Nat × va_E) (([(kc6 (hQ 0) (.ref q8) (.ref q17) (.ref q25) (.ref q33) (.ref q39) (.int 0) (.int 0) (.int 0) (.ref q50) (.ref q61) .null .null .null), (q8, .inl (kb, 400, .inr (.inr (.inr (.inr (fun _ => none)))))), (kr0 q17 kI 40), (kr0 q25 kI 41), (kr0 q33 kZ 41)] ++ (T9_2)) ++ [(q72, .inr (8, [.null, .int 0, .int 0]))]) ([(q72, .inr (8, [.null, .int 0, .int 0]))] ++ ([(kc6 (hQ 0) (.ref q8) (.ref q17) (.ref q25) (.ref q33) (.ref q39) (.int 0) (.int 0) (.int 0) (.ref q50) (.ref q61) .null .null .null), (q8, .inl (kb, 400, .inr (.inr (.inr (.inr (fun _ => none)))))), (kr0 q17 kI 40), (kr0 q25 kI 41), (kr0 q33 kZ 41)] ++ (T9_2))) := List.perm_append_comm
  have hPc := hP.mem (fun q h => p9.mem_iff.mpr (List.mem_append_left _ h))
  have hDc := (hD.perm p9).left
  have hKc : va_K (dC, dI) vwCl ([]) _ := hK.sub [] rfl
  have hFc := freeG p9 hD hS hA
  refine va_callv (va_runIN (As := []) (rest := [.ref q72, .ref (hQ 0)]) ⟨hx, hb, hml, hown, hts⟩ (p_X8_init l dC dI q72 H.size) ⟨va_cnB 0 hts gwsKX6_init_0 rfl rfl rfl (hE.2.2.1.2.2.2.2.1 (.methodLinkNest RX6 28 yX8_init RX11) (by decide +kernel)) (hts _ hm_kl_X6_init_4) (by decide +kernel) ⟨by first | decide +kernel | (dsimp only [headSpec] <;> omega), by first | decide +kernel | (dsimp only [headSpec] <;> omega)⟩, rfl, (hts _ hm_kl_X6_init_5)⟩ ⟨fun a U g mk q => by obtain ⟨q0, q1, qP, qK, qD⟩ := q; exact ⟨q0, q1, qP, va_K.moved (u := U) (U := U.calling g mk a) (Vm.Alike.refl U.vm) qK, qD⟩, fun U hU hW => ⟨rfl, by rw [hU], by rw [hU]; exact hPc, va_K.moved hW.alike hKc, hDc.weaken (fun _ _ _ _ => trivial)⟩⟩ rfl rfl hl.1 rfl (lv_room (Nat.le_of_ble_eq_true rfl)) dX6_init_76 ⟨by first | decide +kernel | (dsimp only [headSpec] <;> omega), by first | decide +kernel | (dsimp only [headSpec] <;> omega)⟩) hS (fun q _ h => hFc q h) hFc (fun u t H1 locs ht hvm hw hB hz1 hk1 hS => ?_)
  obtain ⟨y72, k9⟩ := u
  obtain ⟨hP1, hK1, hD1⟩ := hB
  dsimp only at hP1 hK1 hD1
  rw [ht] at hP1
  have hK1 := va_K.moved hvm.symm hK1
  obtain rfl : kw = k9 := (va_K.cl2 hK1 hK (i := 0) (j := 1) rfl rfl).symm
  clear hK1 hw
  have p8 : List.Perm (α := Nat × va_E) ([(kc6 (hQ 0) (.ref q8) (.ref q17) (.ref q25) (.ref q33) (.ref q39) (.int 0) (.int 0) (.int 0) (.ref q50) (.ref q61) .null .null .null), (q8, .inl (kb, 400, .inr (.inr (.inr (.inr (fun _ => none)))))), (kr0 q17 kI 40), (kr0 q25 kI 41), (kr0 q33 kZ 41)] ++ ([(q72, .inr (8, [.ref y72, .int 0, .int 0])), (kl0 y72 kw 14)] ++ (T9_2))) ([(q72, .inr (8, [.ref y72, .int 0, .int 0])), (kl0 y72 kw 14)] ++ ([(kc6 (hQ 0) (.ref q8) (.ref q17) (.ref q25) (.ref q33) (.ref q39) (.int 0) (.int 0) (.int 0) (.ref q50) (.ref q61) .null .null .null), (q8, .inl (kb, 400, .inr (.inr (.inr (.inr (fun _ => none)))))), (kr0 q17 kI 40), (kr0 q25 kI 41), (kr0 q33 kZ 41)] ++ (T9_2))) := List.perm_append_comm_assoc _ _ _
  obtain ⟨hP, hD⟩ := frameG p9 p8 hP hD hk1 hFc hP1 hD1
  generalize H1 = H at hP hS ⊢
  clear p9 p8 hPc hDc hKc hFc hP1 hD1 hk1 hz1
  obtain ⟨T9_3, eT9_3⟩ : ∃ t9 : va_W, t9 = WW 1 (fun _ => q72) (fun _ => y72) kw (fun _ => 0) (fun _ => 0) (fun _ _ => 0) ++ (T9_2) := ⟨_, rfl⟩
  have hP : va_P (dC, dI) vwCl ([(kc6 (hQ 0) (.ref q8) (.ref q17) (.ref q25) (.ref q33) (.ref q39) (.int 0) (.int 0) (.int 0) (.ref q50) (.ref q61) .null .null .null), (q8, .inl (kb, 400, .inr (.inr (.inr (.inr (fun _ => none)))))), (kr0 q17 kI 40), (kr0 q25 kI 41), (kr0 q33 kZ 41)] ++ (T9_3)) H := by rw [eT9_3]; exact hP
  have hD : va_D A ([(kc6 (hQ 0) (.ref q8) (.ref q17) (.ref q25) (.ref q33) (.ref q39) (.int 0) (.int 0) (.int 0) (.ref q50) (.ref q61) .null .null .null), (q8, .inl (kb, 400, .inr (.inr (.inr (.inr (fun _ => none)))))), (kr0 q17 kI 40), (kr0 q25 kI 41), (kr0 q33 kZ 41)] ++ (T9_3)) := by rw [eT9_3]; exact hD
  refine W.widen (k := 12) (n := 590) (by omega) (by omega) ?_
  refine va_putF (D := (dC, dI)) (ci := 6) (v := .ref q72) (ty := .object "OptimaWorks$Whole") (C := RX6) (T := TX6) (N := 13) hx hb hts iwsKX6_init_in6 tyX6 tyX6_ok nmX6 hown hK hP hD hS 0 rfl rfl 10 (by decide) (hts (.fieldLink RX6 39 "OptimaWorks$Tableau" "second" "LOptimaWorks$Whole;") (by decide +kernel)) (fun _ h9 => h9) rfl hin rfl (by decide +kernel) rfl rfl (Nat.le_of_ble_eq_true rfl) dX6_init_79 (fun H locs hP hD hS => ?_)
  have hP : va_P (dC, dI) vwCl ([(kc6 (hQ 0) (.ref q8) (.ref q17) (.ref q25) (.ref q33) (.ref q39) (.int 0) (.int 0) (.int 0) (.ref q50) (.ref q61) (.ref q72) .null .null), (q8, .inl (kb, 400, .inr (.inr (.inr (.inr (fun _ => none)))))), (kr0 q17 kI 40), (kr0 q25 kI 41), (kr0 q33 kZ 41)] ++ (T9_3)) H := hP
  have hD := fz_sd hP (hD) rfl
  refine lv_aload_n hx hb dX6_init_82 rfl (lv_at hl 0 rfl) ?_
  refine va_new (ci := 8) (fs := [.null, .int 0, .int 0]) (C := RX8) (T := TX8) (N := 3) hx hb hts iwsKX6_init_in8 tyX8 tyX8_ok hown (hts _ hm_kl_X6_init_0) (hts _ hm_kl_X6_init_3) (hts _ hm_kl_X6_init_4) hK hP hD hS hA rfl (by decide +kernel) (by first | decide +kernel | (dsimp only [headSpec] <;> omega)) (by first | decide +kernel | (dsimp only [headSpec] <;> omega)) dX6_init_83 (fun q83 H hP hD hS => ?_)
  refine lv_dup hx hb dX6_init_86 rfl ?_
  have p9 : List.Perm (α := Nat × va_E) (([(kc6 (hQ 0) (.ref q8) (.ref q17) (.ref q25) (.ref q33) (.ref q39) (.int 0) (.int 0) (.int 0) (.ref q50) (.ref q61) (.ref q72) .null .null), (q8, .inl (kb, 400, .inr (.inr (.inr (.inr (fun _ => none)))))), (kr0 q17 kI 40), (kr0 q25 kI 41), (kr0 q33 kZ 41)] ++ (T9_3)) ++ [(q83, .inr (8, [.null, .int 0, .int 0]))]) ([(q83, .inr (8, [.null, .int 0, .int 0]))] ++ ([(kc6 (hQ 0) (.ref q8) (.ref q17) (.ref q25) (.ref q33) (.ref q39) (.int 0) (.int 0) (.int 0) (.ref q50) (.ref q61) (.ref q72) .null .null), (q8, .inl (kb, 400, .inr (.inr (.inr (.inr (fun _ => none)))))), (kr0 q17 kI 40), (kr0 q25 kI 41), (kr0 q33 kZ 41)] ++ (T9_3))) := List.perm_append_comm
  have hPc := hP.mem (fun q h => p9.mem_iff.mpr (List.mem_append_left _ h))
  have hDc := (hD.perm p9).left
  have hKc : va_K (dC, dI) vwCl ([]) _ := hK.sub [] rfl
  have hFc := freeG p9 hD hS hA
  refine va_callv (va_runIN (As := []) (rest := [.ref q83, .ref (hQ 0)]) ⟨hx, hb, hml, hown, hts⟩ (p_X8_init l dC dI q83 H.size) ⟨va_cnB 0 hts gwsKX6_init_0 rfl rfl rfl (hE.2.2.1.2.2.2.2.1 (.methodLinkNest RX6 28 yX8_init RX11) (by decide +kernel)) (hts _ hm_kl_X6_init_4) (by decide +kernel) ⟨by first | decide +kernel | (dsimp only [headSpec] <;> omega), by first | decide +kernel | (dsimp only [headSpec] <;> omega)⟩, rfl, (hts _ hm_kl_X6_init_5)⟩ ⟨fun a U g mk q => by obtain ⟨q0, q1, qP, qK, qD⟩ := q; exact ⟨q0, q1, qP, va_K.moved (u := U) (U := U.calling g mk a) (Vm.Alike.refl U.vm) qK, qD⟩, fun U hU hW => ⟨rfl, by rw [hU], by rw [hU]; exact hPc, va_K.moved hW.alike hKc, hDc.weaken (fun _ _ _ _ => trivial)⟩⟩ rfl rfl hl.1 rfl (lv_room (Nat.le_of_ble_eq_true rfl)) dX6_init_87 ⟨by first | decide +kernel | (dsimp only [headSpec] <;> omega), by first | decide +kernel | (dsimp only [headSpec] <;> omega)⟩) hS (fun q _ h => hFc q h) hFc (fun u t H1 locs ht hvm hw hB hz1 hk1 hS => ?_)
  obtain ⟨y83, k9⟩ := u
  obtain ⟨hP1, hK1, hD1⟩ := hB
  dsimp only at hP1 hK1 hD1
  rw [ht] at hP1
  have hK1 := va_K.moved hvm.symm hK1
  obtain rfl : kw = k9 := (va_K.cl2 hK1 hK (i := 0) (j := 1) rfl rfl).symm
  clear hK1 hw
  have p8 : List.Perm (α := Nat × va_E) ([(kc6 (hQ 0) (.ref q8) (.ref q17) (.ref q25) (.ref q33) (.ref q39) (.int 0) (.int 0) (.int 0) (.ref q50) (.ref q61) (.ref q72) .null .null), (q8, .inl (kb, 400, .inr (.inr (.inr (.inr (fun _ => none)))))), (kr0 q17 kI 40), (kr0 q25 kI 41), (kr0 q33 kZ 41)] ++ ([(q83, .inr (8, [.ref y83, .int 0, .int 0])), (kl0 y83 kw 14)] ++ (T9_3))) ([(q83, .inr (8, [.ref y83, .int 0, .int 0])), (kl0 y83 kw 14)] ++ ([(kc6 (hQ 0) (.ref q8) (.ref q17) (.ref q25) (.ref q33) (.ref q39) (.int 0) (.int 0) (.int 0) (.ref q50) (.ref q61) (.ref q72) .null .null), (q8, .inl (kb, 400, .inr (.inr (.inr (.inr (fun _ => none)))))), (kr0 q17 kI 40), (kr0 q25 kI 41), (kr0 q33 kZ 41)] ++ (T9_3))) := List.perm_append_comm_assoc _ _ _
  obtain ⟨hP, hD⟩ := frameG p9 p8 hP hD hk1 hFc hP1 hD1
  generalize H1 = H at hP hS ⊢
  clear p9 p8 hPc hDc hKc hFc hP1 hD1 hk1 hz1
  obtain ⟨T9_4, eT9_4⟩ : ∃ t9 : va_W, t9 = WW 1 (fun _ => q83) (fun _ => y83) kw (fun _ => 0) (fun _ => 0) (fun _ _ => 0) ++ (T9_3) := ⟨_, rfl⟩
  have hP : va_P (dC, dI) vwCl ([(kc6 (hQ 0) (.ref q8) (.ref q17) (.ref q25) (.ref q33) (.ref q39) (.int 0) (.int 0) (.int 0) (.ref q50) (.ref q61) (.ref q72) .null .null), (q8, .inl (kb, 400, .inr (.inr (.inr (.inr (fun _ => none)))))), (kr0 q17 kI 40), (kr0 q25 kI 41), (kr0 q33 kZ 41)] ++ (T9_4)) H := by rw [eT9_4]; exact hP
  have hD : va_D A ([(kc6 (hQ 0) (.ref q8) (.ref q17) (.ref q25) (.ref q33) (.ref q39) (.int 0) (.int 0) (.int 0) (.ref q50) (.ref q61) (.ref q72) .null .null), (q8, .inl (kb, 400, .inr (.inr (.inr (.inr (fun _ => none)))))), (kr0 q17 kI 40), (kr0 q25 kI 41), (kr0 q33 kZ 41)] ++ (T9_4)) := by rw [eT9_4]; exact hD
  refine W.widen (k := 14) (n := 607) (by omega) (by omega) ?_
  refine va_putF (D := (dC, dI)) (ci := 6) (v := .ref q83) (ty := .object "OptimaWorks$Whole") (C := RX6) (T := TX6) (N := 13) hx hb hts iwsKX6_init_in6 tyX6 tyX6_ok nmX6 hown hK hP hD hS 0 rfl rfl 11 (by decide) (hts (.fieldLink RX6 42 "OptimaWorks$Tableau" "rest" "LOptimaWorks$Whole;") (by decide +kernel)) (fun _ h9 => h9) rfl hin rfl (by decide +kernel) rfl rfl (Nat.le_of_ble_eq_true rfl) dX6_init_90 (fun H locs hP hD hS => ?_)
  have hP : va_P (dC, dI) vwCl ([(kc6 (hQ 0) (.ref q8) (.ref q17) (.ref q25) (.ref q33) (.ref q39) (.int 0) (.int 0) (.int 0) (.ref q50) (.ref q61) (.ref q72) (.ref q83) .null), (q8, .inl (kb, 400, .inr (.inr (.inr (.inr (fun _ => none)))))), (kr0 q17 kI 40), (kr0 q25 kI 41), (kr0 q33 kZ 41)] ++ (T9_4)) H := hP
  have hD := fz_sd hP (hD) rfl
  refine lv_aload_n hx hb dX6_init_93 rfl (lv_at hl 0 rfl) ?_
  refine va_new (ci := 8) (fs := [.null, .int 0, .int 0]) (C := RX8) (T := TX8) (N := 3) hx hb hts iwsKX6_init_in8 tyX8 tyX8_ok hown (hts _ hm_kl_X6_init_0) (hts _ hm_kl_X6_init_3) (hts _ hm_kl_X6_init_4) hK hP hD hS hA rfl (by decide +kernel) (by first | decide +kernel | (dsimp only [headSpec] <;> omega)) (by first | decide +kernel | (dsimp only [headSpec] <;> omega)) dX6_init_94 (fun q94 H hP hD hS => ?_)
  refine lv_dup hx hb dX6_init_97 rfl ?_
  have p9 : List.Perm (α := Nat × va_E) (([(kc6 (hQ 0) (.ref q8) (.ref q17) (.ref q25) (.ref q33) (.ref q39) (.int 0) (.int 0) (.int 0) (.ref q50) (.ref q61) (.ref q72) (.ref q83) .null), (q8, .inl (kb, 400, .inr (.inr (.inr (.inr (fun _ => none)))))), (kr0 q17 kI 40), (kr0 q25 kI 41), (kr0 q33 kZ 41)] ++ (T9_4)) ++ [(q94, .inr (8, [.null, .int 0, .int 0]))]) ([(q94, .inr (8, [.null, .int 0, .int 0]))] ++ ([(kc6 (hQ 0) (.ref q8) (.ref q17) (.ref q25) (.ref q33) (.ref q39) (.int 0) (.int 0) (.int 0) (.ref q50) (.ref q61) (.ref q72) (.ref q83) .null), (q8, .inl (kb, 400, .inr (.inr (.inr (.inr (fun _ => none)))))), (kr0 q17 kI 40), (kr0 q25 kI 41), (kr0 q33 kZ 41)] ++ (T9_4))) := List.perm_append_comm
  have hPc := hP.mem (fun q h => p9.mem_iff.mpr (List.mem_append_left _ h))
  have hDc := (hD.perm p9).left
  have hKc : va_K (dC, dI) vwCl ([]) _ := hK.sub [] rfl
  have hFc := freeG p9 hD hS hA
  refine va_callv (va_runIN (As := []) (rest := [.ref q94, .ref (hQ 0)]) ⟨hx, hb, hml, hown, hts⟩ (p_X8_init l dC dI q94 H.size) ⟨va_cnB 0 hts gwsKX6_init_0 rfl rfl rfl (hE.2.2.1.2.2.2.2.1 (.methodLinkNest RX6 28 yX8_init RX11) (by decide +kernel)) (hts _ hm_kl_X6_init_4) (by decide +kernel) ⟨by first | decide +kernel | (dsimp only [headSpec] <;> omega), by first | decide +kernel | (dsimp only [headSpec] <;> omega)⟩, rfl, (hts _ hm_kl_X6_init_5)⟩ ⟨fun a U g mk q => by obtain ⟨q0, q1, qP, qK, qD⟩ := q; exact ⟨q0, q1, qP, va_K.moved (u := U) (U := U.calling g mk a) (Vm.Alike.refl U.vm) qK, qD⟩, fun U hU hW => ⟨rfl, by rw [hU], by rw [hU]; exact hPc, va_K.moved hW.alike hKc, hDc.weaken (fun _ _ _ _ => trivial)⟩⟩ rfl rfl hl.1 rfl (lv_room (Nat.le_of_ble_eq_true rfl)) dX6_init_98 ⟨by first | decide +kernel | (dsimp only [headSpec] <;> omega), by first | decide +kernel | (dsimp only [headSpec] <;> omega)⟩) hS (fun q _ h => hFc q h) hFc (fun u t H1 locs ht hvm hw hB hz1 hk1 hS => ?_)
  obtain ⟨y94, k9⟩ := u
  obtain ⟨hP1, hK1, hD1⟩ := hB
  dsimp only at hP1 hK1 hD1
  rw [ht] at hP1
  have hK1 := va_K.moved hvm.symm hK1
  obtain rfl : kw = k9 := (va_K.cl2 hK1 hK (i := 0) (j := 1) rfl rfl).symm
  clear hK1 hw
  have p8 : List.Perm (α := Nat × va_E) ([(kc6 (hQ 0) (.ref q8) (.ref q17) (.ref q25) (.ref q33) (.ref q39) (.int 0) (.int 0) (.int 0) (.ref q50) (.ref q61) (.ref q72) (.ref q83) .null), (q8, .inl (kb, 400, .inr (.inr (.inr (.inr (fun _ => none)))))), (kr0 q17 kI 40), (kr0 q25 kI 41), (kr0 q33 kZ 41)] ++ ([(q94, .inr (8, [.ref y94, .int 0, .int 0])), (kl0 y94 kw 14)] ++ (T9_4))) ([(q94, .inr (8, [.ref y94, .int 0, .int 0])), (kl0 y94 kw 14)] ++ ([(kc6 (hQ 0) (.ref q8) (.ref q17) (.ref q25) (.ref q33) (.ref q39) (.int 0) (.int 0) (.int 0) (.ref q50) (.ref q61) (.ref q72) (.ref q83) .null), (q8, .inl (kb, 400, .inr (.inr (.inr (.inr (fun _ => none)))))), (kr0 q17 kI 40), (kr0 q25 kI 41), (kr0 q33 kZ 41)] ++ (T9_4))) := List.perm_append_comm_assoc _ _ _
  obtain ⟨hP, hD⟩ := frameG p9 p8 hP hD hk1 hFc hP1 hD1
  generalize H1 = H at hP hS ⊢
  clear p9 p8 hPc hDc hKc hFc hP1 hD1 hk1 hz1
  obtain ⟨T9_5, eT9_5⟩ : ∃ t9 : va_W, t9 = WW 1 (fun _ => q94) (fun _ => y94) kw (fun _ => 0) (fun _ => 0) (fun _ _ => 0) ++ (T9_4) := ⟨_, rfl⟩
  have hP : va_P (dC, dI) vwCl ([(kc6 (hQ 0) (.ref q8) (.ref q17) (.ref q25) (.ref q33) (.ref q39) (.int 0) (.int 0) (.int 0) (.ref q50) (.ref q61) (.ref q72) (.ref q83) .null), (q8, .inl (kb, 400, .inr (.inr (.inr (.inr (fun _ => none)))))), (kr0 q17 kI 40), (kr0 q25 kI 41), (kr0 q33 kZ 41)] ++ (T9_5)) H := by rw [eT9_5]; exact hP
  have hD : va_D A ([(kc6 (hQ 0) (.ref q8) (.ref q17) (.ref q25) (.ref q33) (.ref q39) (.int 0) (.int 0) (.int 0) (.ref q50) (.ref q61) (.ref q72) (.ref q83) .null), (q8, .inl (kb, 400, .inr (.inr (.inr (.inr (fun _ => none)))))), (kr0 q17 kI 40), (kr0 q25 kI 41), (kr0 q33 kZ 41)] ++ (T9_5)) := by rw [eT9_5]; exact hD
  refine W.widen (k := 16) (n := 624) (by omega) (by omega) ?_
  refine va_putF (D := (dC, dI)) (ci := 6) (v := .ref q94) (ty := .object "OptimaWorks$Whole") (C := RX6) (T := TX6) (N := 13) hx hb hts iwsKX6_init_in6 tyX6 tyX6_ok nmX6 hown hK hP hD hS 0 rfl rfl 12 (by decide) (hts (.fieldLink RX6 45 "OptimaWorks$Tableau" "spare" "LOptimaWorks$Whole;") (by decide +kernel)) (fun _ h9 => h9) rfl hin rfl (by decide +kernel) rfl rfl (Nat.le_of_ble_eq_true rfl) dX6_init_101 (fun H locs hP hD hS => ?_)
  have hP : va_P (dC, dI) vwCl ([(kc6 (hQ 0) (.ref q8) (.ref q17) (.ref q25) (.ref q33) (.ref q39) (.int 0) (.int 0) (.int 0) (.ref q50) (.ref q61) (.ref q72) (.ref q83) (.ref q94)), (q8, .inl (kb, 400, .inr (.inr (.inr (.inr (fun _ => none)))))), (kr0 q17 kI 40), (kr0 q25 kI 41), (kr0 q33 kZ 41)] ++ (T9_5)) H := hP
  have hD := fz_sd hP (hD) rfl
  refine lv_iconst (v := 0) hx hb dX6_init_104 (by decide) ?_
  refine lv_istore_n hx hb dX6_init_105 rfl hl (by decide) rfl (fun ls (hl : lv_has ls _ ([(1, .int 0), (0, .ref (hQ 0))])) => ?_)
  have ez : [(kc6 (hQ 0) (.ref q8) (.ref q17) (.ref q25) (.ref q33) (.ref q39) (.int 0) (.int 0) (.int 0) (.ref q50) (.ref q61) (.ref q72) (.ref q83) (.ref q94)), (q8, .inl (kb, 400, .inr (.inr (.inr (.inr (fW 0 (fun _ => 0))))))), (kr0 q17 kI 40), (kr0 q25 kI 41), (kr0 q33 kZ 41)] ++ (WW 0 (fun _ => 0) (fun _ => 0) kw (fun _ => 0) (fun _ => 0) (fun _ _ => 0) ++ (T9_5)) = [(kc6 (hQ 0) (.ref q8) (.ref q17) (.ref q25) (.ref q33) (.ref q39) (.int 0) (.int 0) (.int 0) (.ref q50) (.ref q61) (.ref q72) (.ref q83) (.ref q94)), (q8, .inl (kb, 400, .inr (.inr (.inr (.inr (fun _ => none)))))), (kr0 q17 kI 40), (kr0 q25 kI 41), (kr0 q33 kZ 41)] ++ (T9_5) := by rw [fW_0]; rfl
  have hP : va_P (dC, dI) vwCl ([(kc6 (hQ 0) (.ref q8) (.ref q17) (.ref q25) (.ref q33) (.ref q39) (.int 0) (.int 0) (.int 0) (.ref q50) (.ref q61) (.ref q72) (.ref q83) (.ref q94)), (q8, .inl (kb, 400, .inr (.inr (.inr (.inr (fW 0 (fun _ => 0))))))), (kr0 q17 kI 40), (kr0 q25 kI 41), (kr0 q33 kZ 41)] ++ (WW 0 (fun _ => 0) (fun _ => 0) kw (fun _ => 0) (fun _ => 0) (fun _ _ => 0) ++ (T9_5))) H := by rw [ez]; exact hP
  have hD : va_D A ([(kc6 (hQ 0) (.ref q8) (.ref q17) (.ref q25) (.ref q33) (.ref q39) (.int 0) (.int 0) (.int 0) (.ref q50) (.ref q61) (.ref q72) (.ref q83) (.ref q94)), (q8, .inl (kb, 400, .inr (.inr (.inr (.inr (fW 0 (fun _ => 0))))))), (kr0 q17 kI 40), (kr0 q25 kI 41), (kr0 q33 kZ 41)] ++ (WW 0 (fun _ => 0) (fun _ => 0) kw (fun _ => 0) (fun _ => 0) (fun _ _ => 0) ++ (T9_5))) := by rw [ez]; exact hD
  clear ez
  have hl : lv_has ls 2 [(1, .int (nI 0)), (0, .ref (hQ 0))] := hl
  refine (fun (loop : ∀ (n9 i9 : Nat) (hw lw : Nat → Nat) (H : Heap) (locs : List Loc) (ls : Array Slot), 400 < n9 + i9 → i9 ≤ 400 → va_P (dC, dI) vwCl ([(kc6 (hQ 0) (.ref q8) (.ref q17) (.ref q25) (.ref q33) (.ref q39) (.int 0) (.int 0) (.int 0) (.ref q50) (.ref q61) (.ref q72) (.ref q83) (.ref q94)), (kq0 q8 kb 400 (fW i9 hw)), (kr0 q17 kI 40), (kr0 q25 kI 41), (kr0 q33 kZ 41)] ++ (WW i9 hw lw kw (fun _ => 0) (fun _ => 0) (fun _ _ => 0) ++ (T9_5))) H → va_D A ([(kc6 (hQ 0) (.ref q8) (.ref q17) (.ref q25) (.ref q33) (.ref q39) (.int 0) (.int 0) (.int 0) (.ref q50) (.ref q61) (.ref q72) (.ref q83) (.ref q94)), (kq0 q8 kb 400 (fW i9 hw)), (kr0 q17 kI 40), (kr0 q25 kI 41), (kr0 q33 kZ 41)] ++ (WW i9 hw lw kw (fun _ => 0) (fun _ => 0) (fun _ _ => 0) ++ (T9_5))) → va_S A s.heap H locs → lv_has ls 2 [(1, .int (nI i9)), (0, .ref (hQ 0))] → W p l e _ s m _ below meth c H locs (16 + 2 * i9) (624 + 17 * i9) _ (F0 m 106 ls [])) => loop (400 + 1) 0 _ _ _ _ _ (by omega) (Nat.zero_le _) hP hD hS hl) ?_
  intro n9
  induction n9 with
  | zero => intro i9 hw lw H locs ls h1 h2; exact False.elim (by omega)
  | succ n9 ih =>
    intro i9 hw lw H locs ls hf hi hP hD hS hl
    have ti := nI_toInt (n := i9) (by omega)
    refine lv_iload_n hx hb dX6_init_106 rfl (lv_at hl 0 rfl) ?_
    refine lv_sipush (v := 400) hx hb dX6_init_107 (by decide) ?_
    refine lv_icmp_ge (tgt := 132) hx hb dX6_init_110 (by decide) (fun c9 => ?_) (fun c9 => ?_)
    · have t9 := toI_ge c9 ti (by decide : (400 : Int32).toInt = 400)
      obtain rfl : 400 = i9 := by omega
      subst eT9_5
      subst eT9_4
      subst eT9_3
      subst eT9_2
      subst eT9_1
      subst eT9_0
      obtain ⟨L9, eL9⟩ : ∃ t9 : va_W, t9 = [(kc6 (hQ 0) (.ref q8) (.ref q17) (.ref q25) (.ref q33) (.ref q39) (.int 0) (.int 0) (.int 0) (.ref q50) (.ref q61) (.ref q72) (.ref q83) (.ref q94)), (kq0 q8 kb 400 (fW 400 hw)), (kr0 q17 kI 40), (kr0 q25 kI 41), (kr0 q33 kZ 41)] := ⟨_, rfl⟩
      have hP : va_P (dC, dI) vwCl (L9 ++ (WW 400 hw lw kw (fun _ => 0) (fun _ => 0) (fun _ _ => 0) ++ (WW 1 (fun _ => q94) (fun _ => y94) kw (fun _ => 0) (fun _ => 0) (fun _ _ => 0) ++ (WW 1 (fun _ => q83) (fun _ => y83) kw (fun _ => 0) (fun _ => 0) (fun _ _ => 0) ++ (WW 1 (fun _ => q72) (fun _ => y72) kw (fun _ => 0) (fun _ => 0) (fun _ _ => 0) ++ (WW 1 (fun _ => q61) (fun _ => y61) kw (fun _ => 0) (fun _ => 0) (fun _ _ => 0) ++ (WW 1 (fun _ => q50) (fun _ => y50) kw (fun _ => 0) (fun _ => 0) (fun _ _ => 0) ++ (WW 1 (fun _ => q39) (fun _ => y39) kw (fun _ => 0) (fun _ => 0) (fun _ _ => 0))))))))) H := by rw [eL9]; exact hP
      have hD : va_D A (L9 ++ (WW 400 hw lw kw (fun _ => 0) (fun _ => 0) (fun _ _ => 0) ++ (WW 1 (fun _ => q94) (fun _ => y94) kw (fun _ => 0) (fun _ => 0) (fun _ _ => 0) ++ (WW 1 (fun _ => q83) (fun _ => y83) kw (fun _ => 0) (fun _ => 0) (fun _ _ => 0) ++ (WW 1 (fun _ => q72) (fun _ => y72) kw (fun _ => 0) (fun _ => 0) (fun _ _ => 0) ++ (WW 1 (fun _ => q61) (fun _ => y61) kw (fun _ => 0) (fun _ => 0) (fun _ _ => 0) ++ (WW 1 (fun _ => q50) (fun _ => y50) kw (fun _ => 0) (fun _ => 0) (fun _ _ => 0) ++ (WW 1 (fun _ => q39) (fun _ => y39) kw (fun _ => 0) (fun _ => 0) (fun _ _ => 0))))))))) := by rw [eL9]; exact hD
      have pj := kj_X6_init (WW 400 hw lw kw (fun _ => 0) (fun _ => 0) (fun _ _ => 0)) (WW 1 (fun _ => q94) (fun _ => y94) kw (fun _ => 0) (fun _ => 0) (fun _ _ => 0)) (WW 1 (fun _ => q83) (fun _ => y83) kw (fun _ => 0) (fun _ => 0) (fun _ _ => 0)) (WW 1 (fun _ => q72) (fun _ => y72) kw (fun _ => 0) (fun _ => 0) (fun _ _ => 0)) (WW 1 (fun _ => q61) (fun _ => y61) kw (fun _ => 0) (fun _ => 0) (fun _ _ => 0)) (WW 1 (fun _ => q50) (fun _ => y50) kw (fun _ => 0) (fun _ => 0) (fun _ _ => 0)) (WW 1 (fun _ => q39) (fun _ => y39) kw (fun _ => 0) (fun _ => 0) (fun _ _ => 0))
      have hP := hP.mem (fun q h => (List.Perm.append_left L9 pj).mem_iff.mpr h)
      have hD := hD.perm (List.Perm.append_left L9 pj)
      clear pj
      have pj : List.Perm (α := Nat × va_E) (WW 400 hw lw kw (fun _ => 0) (fun _ => 0) (fun _ _ => 0) ++ (WW 1 (fun _ => q39) (fun _ => y39) kw (fun _ => 0) (fun _ => 0) (fun _ _ => 0) ++ (WW 1 (fun _ => q50) (fun _ => y50) kw (fun _ => 0) (fun _ => 0) (fun _ _ => 0) ++ (WW 1 (fun _ => q61) (fun _ => y61) kw (fun _ => 0) (fun _ => 0) (fun _ _ => 0) ++ (WW 1 (fun _ => q72) (fun _ => y72) kw (fun _ => 0) (fun _ => 0) (fun _ _ => 0) ++ (WW 1 (fun _ => q83) (fun _ => y83) kw (fun _ => 0) (fun _ => 0) (fun _ _ => 0) ++ (WW 1 (fun _ => q94) (fun _ => y94) kw (fun _ => 0) (fun _ => 0) (fun _ _ => 0)))))))) (WW 401 (jn 400 hw (fun _ => q39)) (jn 400 lw (fun _ => y39)) kw (fun _ => 0) (fun _ => 0) (fun _ _ => 0) ++ (WW 1 (fun _ => q50) (fun _ => y50) kw (fun _ => 0) (fun _ => 0) (fun _ _ => 0) ++ (WW 1 (fun _ => q61) (fun _ => y61) kw (fun _ => 0) (fun _ => 0) (fun _ _ => 0) ++ (WW 1 (fun _ => q72) (fun _ => y72) kw (fun _ => 0) (fun _ => 0) (fun _ _ => 0) ++ (WW 1 (fun _ => q83) (fun _ => y83) kw (fun _ => 0) (fun _ => 0) (fun _ _ => 0) ++ (WW 1 (fun _ => q94) (fun _ => y94) kw (fun _ => 0) (fun _ => 0) (fun _ _ => 0))))))) := WW_ap2
      have hP := hP.mem (fun q h => (List.Perm.append_left L9 pj).mem_iff.mpr h)
      have hD := hD.perm (List.Perm.append_left L9 pj)
      clear pj
      have pj : List.Perm (α := Nat × va_E) (WW 401 (jn 400 hw (fun _ => q39)) (jn 400 lw (fun _ => y39)) kw (fun _ => 0) (fun _ => 0) (fun _ _ => 0) ++ (WW 1 (fun _ => q50) (fun _ => y50) kw (fun _ => 0) (fun _ => 0) (fun _ _ => 0) ++ (WW 1 (fun _ => q61) (fun _ => y61) kw (fun _ => 0) (fun _ => 0) (fun _ _ => 0) ++ (WW 1 (fun _ => q72) (fun _ => y72) kw (fun _ => 0) (fun _ => 0) (fun _ _ => 0) ++ (WW 1 (fun _ => q83) (fun _ => y83) kw (fun _ => 0) (fun _ => 0) (fun _ _ => 0) ++ (WW 1 (fun _ => q94) (fun _ => y94) kw (fun _ => 0) (fun _ => 0) (fun _ _ => 0))))))) (WW 402 (jn 401 (jn 400 hw (fun _ => q39)) (fun _ => q50)) (jn 401 (jn 400 lw (fun _ => y39)) (fun _ => y50)) kw (fun _ => 0) (fun _ => 0) (fun _ _ => 0) ++ (WW 1 (fun _ => q61) (fun _ => y61) kw (fun _ => 0) (fun _ => 0) (fun _ _ => 0) ++ (WW 1 (fun _ => q72) (fun _ => y72) kw (fun _ => 0) (fun _ => 0) (fun _ _ => 0) ++ (WW 1 (fun _ => q83) (fun _ => y83) kw (fun _ => 0) (fun _ => 0) (fun _ _ => 0) ++ (WW 1 (fun _ => q94) (fun _ => y94) kw (fun _ => 0) (fun _ => 0) (fun _ _ => 0)))))) := WW_ap2
      have hP := hP.mem (fun q h => (List.Perm.append_left L9 pj).mem_iff.mpr h)
      have hD := hD.perm (List.Perm.append_left L9 pj)
      clear pj
      have pj : List.Perm (α := Nat × va_E) (WW 402 (jn 401 (jn 400 hw (fun _ => q39)) (fun _ => q50)) (jn 401 (jn 400 lw (fun _ => y39)) (fun _ => y50)) kw (fun _ => 0) (fun _ => 0) (fun _ _ => 0) ++ (WW 1 (fun _ => q61) (fun _ => y61) kw (fun _ => 0) (fun _ => 0) (fun _ _ => 0) ++ (WW 1 (fun _ => q72) (fun _ => y72) kw (fun _ => 0) (fun _ => 0) (fun _ _ => 0) ++ (WW 1 (fun _ => q83) (fun _ => y83) kw (fun _ => 0) (fun _ => 0) (fun _ _ => 0) ++ (WW 1 (fun _ => q94) (fun _ => y94) kw (fun _ => 0) (fun _ => 0) (fun _ _ => 0)))))) (WW 403 (jn 402 (jn 401 (jn 400 hw (fun _ => q39)) (fun _ => q50)) (fun _ => q61)) (jn 402 (jn 401 (jn 400 lw (fun _ => y39)) (fun _ => y50)) (fun _ => y61)) kw (fun _ => 0) (fun _ => 0) (fun _ _ => 0) ++ (WW 1 (fun _ => q72) (fun _ => y72) kw (fun _ => 0) (fun _ => 0) (fun _ _ => 0) ++ (WW 1 (fun _ => q83) (fun _ => y83) kw (fun _ => 0) (fun _ => 0) (fun _ _ => 0) ++ (WW 1 (fun _ => q94) (fun _ => y94) kw (fun _ => 0) (fun _ => 0) (fun _ _ => 0))))) := WW_ap2
      have hP := hP.mem (fun q h => (List.Perm.append_left L9 pj).mem_iff.mpr h)
      have hD := hD.perm (List.Perm.append_left L9 pj)
      clear pj
      have pj : List.Perm (α := Nat × va_E) (WW 403 (jn 402 (jn 401 (jn 400 hw (fun _ => q39)) (fun _ => q50)) (fun _ => q61)) (jn 402 (jn 401 (jn 400 lw (fun _ => y39)) (fun _ => y50)) (fun _ => y61)) kw (fun _ => 0) (fun _ => 0) (fun _ _ => 0) ++ (WW 1 (fun _ => q72) (fun _ => y72) kw (fun _ => 0) (fun _ => 0) (fun _ _ => 0) ++ (WW 1 (fun _ => q83) (fun _ => y83) kw (fun _ => 0) (fun _ => 0) (fun _ _ => 0) ++ (WW 1 (fun _ => q94) (fun _ => y94) kw (fun _ => 0) (fun _ => 0) (fun _ _ => 0))))) (WW 404 (jn 403 (jn 402 (jn 401 (jn 400 hw (fun _ => q39)) (fun _ => q50)) (fun _ => q61)) (fun _ => q72)) (jn 403 (jn 402 (jn 401 (jn 400 lw (fun _ => y39)) (fun _ => y50)) (fun _ => y61)) (fun _ => y72)) kw (fun _ => 0) (fun _ => 0) (fun _ _ => 0) ++ (WW 1 (fun _ => q83) (fun _ => y83) kw (fun _ => 0) (fun _ => 0) (fun _ _ => 0) ++ (WW 1 (fun _ => q94) (fun _ => y94) kw (fun _ => 0) (fun _ => 0) (fun _ _ => 0)))) := WW_ap2
      have hP := hP.mem (fun q h => (List.Perm.append_left L9 pj).mem_iff.mpr h)
      have hD := hD.perm (List.Perm.append_left L9 pj)
      clear pj
      have pj : List.Perm (α := Nat × va_E) (WW 404 (jn 403 (jn 402 (jn 401 (jn 400 hw (fun _ => q39)) (fun _ => q50)) (fun _ => q61)) (fun _ => q72)) (jn 403 (jn 402 (jn 401 (jn 400 lw (fun _ => y39)) (fun _ => y50)) (fun _ => y61)) (fun _ => y72)) kw (fun _ => 0) (fun _ => 0) (fun _ _ => 0) ++ (WW 1 (fun _ => q83) (fun _ => y83) kw (fun _ => 0) (fun _ => 0) (fun _ _ => 0) ++ (WW 1 (fun _ => q94) (fun _ => y94) kw (fun _ => 0) (fun _ => 0) (fun _ _ => 0)))) (WW 405 (jn 404 (jn 403 (jn 402 (jn 401 (jn 400 hw (fun _ => q39)) (fun _ => q50)) (fun _ => q61)) (fun _ => q72)) (fun _ => q83)) (jn 404 (jn 403 (jn 402 (jn 401 (jn 400 lw (fun _ => y39)) (fun _ => y50)) (fun _ => y61)) (fun _ => y72)) (fun _ => y83)) kw (fun _ => 0) (fun _ => 0) (fun _ _ => 0) ++ (WW 1 (fun _ => q94) (fun _ => y94) kw (fun _ => 0) (fun _ => 0) (fun _ _ => 0))) := WW_ap2
      have hP := hP.mem (fun q h => (List.Perm.append_left L9 pj).mem_iff.mpr h)
      have hD := hD.perm (List.Perm.append_left L9 pj)
      clear pj
      have pj : List.Perm (α := Nat × va_E) (WW 405 (jn 404 (jn 403 (jn 402 (jn 401 (jn 400 hw (fun _ => q39)) (fun _ => q50)) (fun _ => q61)) (fun _ => q72)) (fun _ => q83)) (jn 404 (jn 403 (jn 402 (jn 401 (jn 400 lw (fun _ => y39)) (fun _ => y50)) (fun _ => y61)) (fun _ => y72)) (fun _ => y83)) kw (fun _ => 0) (fun _ => 0) (fun _ _ => 0) ++ (WW 1 (fun _ => q94) (fun _ => y94) kw (fun _ => 0) (fun _ => 0) (fun _ _ => 0))) (WW 406 (jn 405 (jn 404 (jn 403 (jn 402 (jn 401 (jn 400 hw (fun _ => q39)) (fun _ => q50)) (fun _ => q61)) (fun _ => q72)) (fun _ => q83)) (fun _ => q94)) (jn 405 (jn 404 (jn 403 (jn 402 (jn 401 (jn 400 lw (fun _ => y39)) (fun _ => y50)) (fun _ => y61)) (fun _ => y72)) (fun _ => y83)) (fun _ => y94)) kw (fun _ => 0) (fun _ => 0) (fun _ _ => 0)) := WW_app
      have hP := hP.mem (fun q h => (List.Perm.append_left L9 pj).mem_iff.mpr h)
      have hD := hD.perm (List.Perm.append_left L9 pj)
      clear pj
      subst eL9
      obtain ⟨hF, hFe⟩ : ∃ f9, f9 = jn 405 (jn 404 (jn 403 (jn 402 (jn 401 (jn 400 hw (fun _ => q39)) (fun _ => q50)) (fun _ => q61)) (fun _ => q72)) (fun _ => q83)) (fun _ => q94) := ⟨_, rfl⟩
      obtain ⟨lF, hLe⟩ : ∃ f9, f9 = jn 405 (jn 404 (jn 403 (jn 402 (jn 401 (jn 400 lw (fun _ => y39)) (fun _ => y50)) (fun _ => y61)) (fun _ => y72)) (fun _ => y83)) (fun _ => y94) := ⟨_, rfl⟩
      rw [← hFe, ← hLe] at hP hD
      have hcg : ∀ j, j < 400 → hw j = hF j := fun j hj => by rw [hFe, jn_l (by omega), jn_l (by omega), jn_l (by omega), jn_l (by omega), jn_l (by omega), jn_l (by omega)]
      have hq39 : q39 = hF 400 := by rw [hFe]; rfl
      have hq50 : q50 = hF 401 := by rw [hFe]; rfl
      have hq61 : q61 = hF 402 := by rw [hFe]; rfl
      have hq72 : q72 = hF 403 := by rw [hFe]; rfl
      have hq83 : q83 = hF 404 := by rw [hFe]; rfl
      have hq94 : q94 = hF 405 := by rw [hFe]; rfl
      clear hFe hLe
      have hP := va_P.cg (X := [(kc6 (hQ 0) (.ref q8) (.ref q17) (.ref q25) (.ref q33) (.ref q39) (.int 0) (.int 0) (.int 0) (.ref q50) (.ref q61) (.ref q72) (.ref q83) (.ref q94))]) (Y := [(kr0 q17 kI 40), (kr0 q25 kI 41), (kr0 q33 kZ 41)] ++ WW 406 hF lF kw (fun _ => 0) (fun _ => 0) (fun _ _ => 0)) hP (fW_all hcg)
      have hD := va_D.cg (X := [(kc6 (hQ 0) (.ref q8) (.ref q17) (.ref q25) (.ref q33) (.ref q39) (.int 0) (.int 0) (.int 0) (.ref q50) (.ref q61) (.ref q72) (.ref q83) (.ref q94))]) (Y := [(kr0 q17 kI 40), (kr0 q25 kI 41), (kr0 q33 kZ 41)] ++ WW 406 hF lF kw (fun _ => 0) (fun _ => 0) (fun _ _ => 0)) (e2 := .inl (kb, 400, .inr (.inr (.inr (.inr (fun q => some (hF q))))))) hD
      rw [hq39] at hP hD
      rw [hq50] at hP hD
      rw [hq61] at hP hD
      rw [hq72] at hP hD
      rw [hq83] at hP hD
      rw [hq94] at hP hD
      refine W.widen (k := 816) (n := 7424) (by omega) (by omega) ?_
      exact W.vret hx hb hr (fun t ht hW => ⟨⟨((fun j => ([q8, q17, q25, q33] : List Nat).getD j 0), hF, lF), rfl, trivial, by rw [ht]; exact hP, hD⟩, hS.F ht⟩) hS.2.2 dX6_init_132
    · have t9 := toI_nge c9 ti (by decide : (400 : Int32).toInt = 400)
      refine lv_aload_n hx hb dX6_init_113 rfl (lv_at hl 1 rfl) ?_
      refine va_get (D := (dC, dI)) (ci := 6) (v := .ref q8) (C := RX6) (T := TX6) (N := 13) hx hb hts iwsKX6_init_in6 hown hK hP 0 rfl rfl 0 (by decide) (hts _ hm_kl_X6_init_1) (fun _ h9 => h9) rfl dX6_init_114 ?_
      refine lv_iload_n hx hb dX6_init_117 rfl (lv_at hl 0 rfl) ?_
      refine va_new (ci := 8) (fs := [.null, .int 0, .int 0]) (C := RX8) (T := TX8) (N := 3) hx hb hts iwsKX6_init_in8 tyX8 tyX8_ok hown (hts _ hm_kl_X6_init_0) (hts _ hm_kl_X6_init_3) (hts _ hm_kl_X6_init_4) hK hP hD hS hA rfl (by decide +kernel) (by first | decide +kernel | (dsimp only [headSpec] <;> omega)) (by first | decide +kernel | (dsimp only [headSpec] <;> omega)) dX6_init_118 (fun q9 H hP hD hS => ?_)
      refine lv_dup hx hb dX6_init_121 rfl ?_
      have p9 : List.Perm (α := Nat × va_E) (([(kc6 (hQ 0) (.ref q8) (.ref q17) (.ref q25) (.ref q33) (.ref q39) (.int 0) (.int 0) (.int 0) (.ref q50) (.ref q61) (.ref q72) (.ref q83) (.ref q94)), (kq0 q8 kb 400 (fW i9 hw)), (kr0 q17 kI 40), (kr0 q25 kI 41), (kr0 q33 kZ 41)] ++ (WW i9 hw lw kw (fun _ => 0) (fun _ => 0) (fun _ _ => 0) ++ (T9_5))) ++ [(q9, .inr (8, [.null, .int 0, .int 0]))]) ([(q9, .inr (8, [.null, .int 0, .int 0]))] ++ ([(kc6 (hQ 0) (.ref q8) (.ref q17) (.ref q25) (.ref q33) (.ref q39) (.int 0) (.int 0) (.int 0) (.ref q50) (.ref q61) (.ref q72) (.ref q83) (.ref q94)), (kq0 q8 kb 400 (fW i9 hw)), (kr0 q17 kI 40), (kr0 q25 kI 41), (kr0 q33 kZ 41)] ++ (WW i9 hw lw kw (fun _ => 0) (fun _ => 0) (fun _ _ => 0) ++ (T9_5)))) := List.perm_append_comm
      have hPc := hP.mem (fun q h => p9.mem_iff.mpr (List.mem_append_left _ h))
      have hDc := (hD.perm p9).left
      have hKc : va_K (dC, dI) vwCl ([]) _ := hK.sub [] rfl
      have hFc := freeG p9 hD hS hA
      refine va_callv (va_runIN (As := []) (rest := [.ref q9, .int (nI i9), .ref q8]) ⟨hx, hb, hml, hown, hts⟩ (p_X8_init l dC dI q9 H.size) ⟨va_cnB 0 hts gwsKX6_init_0 rfl rfl rfl (hE.2.2.1.2.2.2.2.1 (.methodLinkNest RX6 28 yX8_init RX11) (by decide +kernel)) (hts _ hm_kl_X6_init_4) (by decide +kernel) ⟨by first | decide +kernel | (dsimp only [headSpec] <;> omega), by first | decide +kernel | (dsimp only [headSpec] <;> omega)⟩, rfl, (hts _ hm_kl_X6_init_5)⟩ ⟨fun a U g mk q => by obtain ⟨q0, q1, qP, qK, qD⟩ := q; exact ⟨q0, q1, qP, va_K.moved (u := U) (U := U.calling g mk a) (Vm.Alike.refl U.vm) qK, qD⟩, fun U hU hW => ⟨rfl, by rw [hU], by rw [hU]; exact hPc, va_K.moved hW.alike hKc, hDc.weaken (fun _ _ _ _ => trivial)⟩⟩ rfl rfl hl.1 rfl (lv_room (Nat.le_of_ble_eq_true rfl)) dX6_init_122 ⟨by first | decide +kernel | (dsimp only [headSpec] <;> omega), by first | decide +kernel | (dsimp only [headSpec] <;> omega)⟩) hS (fun q _ h => hFc q h) hFc (fun u t H1 locs ht hvm hw hB hz1 hk1 hS => ?_)
      obtain ⟨y9, k9⟩ := u
      obtain ⟨hP1, hK1, hD1⟩ := hB
      dsimp only at hP1 hK1 hD1
      rw [ht] at hP1
      have hK1 := va_K.moved hvm.symm hK1
      obtain rfl : kw = k9 := (va_K.cl2 hK1 hK (i := 0) (j := 1) rfl rfl).symm
      clear hK1 hw
      have p8 : List.Perm (α := Nat × va_E) ([(kc6 (hQ 0) (.ref q8) (.ref q17) (.ref q25) (.ref q33) (.ref q39) (.int 0) (.int 0) (.int 0) (.ref q50) (.ref q61) (.ref q72) (.ref q83) (.ref q94)), (kq0 q8 kb 400 (fW i9 hw)), (kr0 q17 kI 40), (kr0 q25 kI 41), (kr0 q33 kZ 41)] ++ ([(q9, .inr (8, [.ref y9, .int 0, .int 0])), (kl0 y9 kw 14)] ++ (WW i9 hw lw kw (fun _ => 0) (fun _ => 0) (fun _ _ => 0) ++ (T9_5)))) ([(q9, .inr (8, [.ref y9, .int 0, .int 0])), (kl0 y9 kw 14)] ++ ([(kc6 (hQ 0) (.ref q8) (.ref q17) (.ref q25) (.ref q33) (.ref q39) (.int 0) (.int 0) (.int 0) (.ref q50) (.ref q61) (.ref q72) (.ref q83) (.ref q94)), (kq0 q8 kb 400 (fW i9 hw)), (kr0 q17 kI 40), (kr0 q25 kI 41), (kr0 q33 kZ 41)] ++ (WW i9 hw lw kw (fun _ => 0) (fun _ => 0) (fun _ _ => 0) ++ (T9_5)))) := List.perm_append_comm_assoc _ _ _
      obtain ⟨hP, hD⟩ := frameG p9 p8 hP hD hk1 hFc hP1 hD1
      generalize H1 = H at hP hS ⊢
      clear p9 p8 hPc hDc hKc hFc hP1 hD1 hk1 hz1
      refine va_astq hx hb hK hP hD hS 1 0 5 8 rfl rfl rfl rfl (vp_in_iff.mpr ⟨by omega, by omega⟩) dX6_init_125 (fun H locs hP hD hS => ?_)
      have ef := fW_s (i := i9) (q := q9) (hw := hw) (x := nI i9) (nI_cl (by omega))
      have hP : va_P (dC, dI) vwCl ([(kc6 (hQ 0) (.ref q8) (.ref q17) (.ref q25) (.ref q33) (.ref q39) (.int 0) (.int 0) (.int 0) (.ref q50) (.ref q61) (.ref q72) (.ref q83) (.ref q94)), (q8, .inl (kb, 400, .inr (.inr (.inr (.inr (fW (i9 + 1) (jn i9 hw (fun _ => q9)))))))), (kr0 q17 kI 40), (kr0 q25 kI 41), (kr0 q33 kZ 41)] ++ ([(q9, .inr (8, [.ref y9, .int 0, .int 0])), (kl0 y9 kw 14)] ++ (WW i9 hw lw kw (fun _ => 0) (fun _ => 0) (fun _ _ => 0) ++ (T9_5)))) H := by rw [← ef]; exact hP
      have hD : va_D A ([(kc6 (hQ 0) (.ref q8) (.ref q17) (.ref q25) (.ref q33) (.ref q39) (.int 0) (.int 0) (.int 0) (.ref q50) (.ref q61) (.ref q72) (.ref q83) (.ref q94)), (q8, .inl (kb, 400, .inr (.inr (.inr (.inr (fW (i9 + 1) (jn i9 hw (fun _ => q9)))))))), (kr0 q17 kI 40), (kr0 q25 kI 41), (kr0 q33 kZ 41)] ++ ([(q9, .inr (8, [.ref y9, .int 0, .int 0])), (kl0 y9 kw 14)] ++ (WW i9 hw lw kw (fun _ => 0) (fun _ => 0) (fun _ _ => 0) ++ (T9_5)))) := by rw [← ef]; exact hD
      have p8 := List.Perm.append_left ([(kc6 (hQ 0) (.ref q8) (.ref q17) (.ref q25) (.ref q33) (.ref q39) (.int 0) (.int 0) (.int 0) (.ref q50) (.ref q61) (.ref q72) (.ref q83) (.ref q94)), (q8, .inl (kb, 400, .inr (.inr (.inr (.inr (fW (i9 + 1) (jn i9 hw (fun _ => q9)))))))), (kr0 q17 kI 40), (kr0 q25 kI 41), (kr0 q33 kZ 41)] : va_W) (WW_in (i := i9) (q := q9) (y := y9) (hw := hw) (lw := lw) (kw := kw) (T := T9_5))
      have hP := hP.mem (fun q h => p8.mem_iff.mpr h)
      have hD := hD.perm p8
      refine lv_iinc (v := nI (i9 + 1)) hx hb dX6_init_126 hl (k := 0) rfl (by rw [nI_succ]; rfl) (by decide) rfl (fun ls (hl : lv_has ls _ ([(1, .int (nI (i9 + 1))), (0, .ref (hQ 0))])) => ?_)
      refine lv_goto (tgt := 106) hx hb dX6_init_129 (by decide) ?_
      have hl : lv_has _ _ ([(1, .int (nI (i9 + 1))), (0, .ref (hQ 0))]) := lv_sub hl [0, 1] rfl
      refine W.widen (k := 16 + 2 * (i9 + 1)) (n := 624 + 17 * (i9 + 1)) (by omega) (by omega) ?_
      exact ih (i9 + 1) _ _ _ _ _ (by omega) (by omega) hP hD hS hl
end
section
theorem kj_X5_init (a0 a1 a2 a3 a4 a5 a6 a7 a8 : va_W) : List.Perm (a0 ++ (a1 ++ (a2 ++ (a3 ++ (a4 ++ (a5 ++ (a6 ++ (a7 ++ (a8))))))))) (a7 ++ (a8 ++ (a6 ++ (a5 ++ (a4 ++ (a3 ++ (a2 ++ (a1 ++ (a0))))))))) := (((((((((List.Perm.refl _).trans (List.perm_append_comm_assoc _ _ _)).trans ((List.Perm.append_left _ (List.perm_append_comm_assoc _ _ _)).trans (List.perm_append_comm_assoc _ _ _))).trans ((List.Perm.append_left _ ((List.Perm.append_left _ (List.perm_append_comm_assoc _ _ _)).trans (List.perm_append_comm_assoc _ _ _))).trans (List.perm_append_comm_assoc _ _ _))).trans ((List.Perm.append_left _ ((List.Perm.append_left _ ((List.Perm.append_left _ (List.perm_append_comm_assoc _ _ _)).trans (List.perm_append_comm_assoc _ _ _))).trans (List.perm_append_comm_assoc _ _ _))).trans (List.perm_append_comm_assoc _ _ _))).trans ((List.Perm.append_left _ ((List.Perm.append_left _ ((List.Perm.append_left _ ((List.Perm.append_left _ (List.perm_append_comm_assoc _ _ _)).trans (List.perm_append_comm_assoc _ _ _))).trans (List.perm_append_comm_assoc _ _ _))).trans (List.perm_append_comm_assoc _ _ _))).trans (List.perm_append_comm_assoc _ _ _))).trans ((List.Perm.append_left _ ((List.Perm.append_left _ ((List.Perm.append_left _ ((List.Perm.append_left _ ((List.Perm.append_left _ (List.perm_append_comm_assoc _ _ _)).trans (List.perm_append_comm_assoc _ _ _))).trans (List.perm_append_comm_assoc _ _ _))).trans (List.perm_append_comm_assoc _ _ _))).trans (List.perm_append_comm_assoc _ _ _))).trans (List.perm_append_comm_assoc _ _ _))).trans ((List.Perm.append_left _ ((List.Perm.append_left _ ((List.Perm.append_left _ ((List.Perm.append_left _ ((List.Perm.append_left _ ((List.Perm.append_left _ ((List.Perm.append_left _ (List.perm_append_comm)).trans (List.perm_append_comm_assoc _ _ _))).trans (List.perm_append_comm_assoc _ _ _))).trans (List.perm_append_comm_assoc _ _ _))).trans (List.perm_append_comm_assoc _ _ _))).trans (List.perm_append_comm_assoc _ _ _))).trans (List.perm_append_comm_assoc _ _ _))).trans (List.perm_append_comm_assoc _ _ _))).trans ((List.Perm.append_left _ ((List.Perm.append_left _ ((List.Perm.append_left _ ((List.Perm.append_left _ ((List.Perm.append_left _ ((List.Perm.append_left _ ((List.Perm.append_left _ (List.perm_append_comm)).trans (List.perm_append_comm_assoc _ _ _))).trans (List.perm_append_comm_assoc _ _ _))).trans (List.perm_append_comm_assoc _ _ _))).trans (List.perm_append_comm_assoc _ _ _))).trans (List.perm_append_comm_assoc _ _ _))).trans (List.perm_append_comm_assoc _ _ _))).trans (List.perm_append_comm_assoc _ _ _)))
theorem dX5_init_0 : decode cX5_init 0 = .ok (.aload_n 0, 1) := dk_42 (by decide +kernel)
theorem dX5_init_1 : decode cX5_init 1 = .ok (.invokespecial 3, 3) := dk_183 (by decide +kernel)
theorem dX5_init_4 : decode cX5_init 4 = .ok (.aload_n 0, 1) := dk_42 (by decide +kernel)
theorem dX5_init_5 : decode cX5_init 5 = .ok (.new 9, 3) := dk_187 (by decide +kernel)
theorem dX5_init_8 : decode cX5_init 8 = .ok (.dup, 1) := dk_89 (by decide +kernel)
theorem dX5_init_9 : decode cX5_init 9 = .ok (.invokespecial 11, 3) := dk_183 (by decide +kernel)
theorem dX5_init_12 : decode cX5_init 12 = .ok (.putfield 12, 3) := dk_181 (by decide +kernel)
theorem dX5_init_15 : decode cX5_init 15 = .ok (.aload_n 0, 1) := dk_42 (by decide +kernel)
theorem dX5_init_16 : decode cX5_init 16 = .ok (.iconst (-1), 1) := dk_2 (by decide +kernel)
theorem dX5_init_17 : decode cX5_init 17 = .ok (.putfield 18, 3) := dk_181 (by decide +kernel)
theorem dX5_init_20 : decode cX5_init 20 = .ok (.aload_n 0, 1) := dk_42 (by decide +kernel)
theorem dX5_init_21 : decode cX5_init 21 = .ok (.bipush 64, 2) := dk_16 (by decide +kernel)
theorem dX5_init_23 : decode cX5_init 23 = .ok (.newarray .int, 2) := by decide +kernel
theorem dX5_init_25 : decode cX5_init 25 = .ok (.putfield 24, 3) := dk_181 (by decide +kernel)
theorem dX5_init_28 : decode cX5_init 28 = .ok (.aload_n 0, 1) := dk_42 (by decide +kernel)
theorem dX5_init_29 : decode cX5_init 29 = .ok (.bipush 24, 2) := dk_16 (by decide +kernel)
theorem dX5_init_31 : decode cX5_init 31 = .ok (.newarray .long, 2) := by decide +kernel
theorem dX5_init_33 : decode cX5_init 33 = .ok (.putfield 28, 3) := dk_181 (by decide +kernel)
theorem dX5_init_36 : decode cX5_init 36 = .ok (.aload_n 0, 1) := dk_42 (by decide +kernel)
theorem dX5_init_37 : decode cX5_init 37 = .ok (.iconst 3, 1) := dk_6 (by decide +kernel)
theorem dX5_init_38 : decode cX5_init 38 = .ok (.newarray .long, 2) := by decide +kernel
theorem dX5_init_40 : decode cX5_init 40 = .ok (.putfield 32, 3) := dk_181 (by decide +kernel)
theorem dX5_init_43 : decode cX5_init 43 = .ok (.aload_n 0, 1) := dk_42 (by decide +kernel)
theorem dX5_init_44 : decode cX5_init 44 = .ok (.bipush 8, 2) := dk_16 (by decide +kernel)
theorem dX5_init_46 : decode cX5_init 46 = .ok (.newarray .int, 2) := by decide +kernel
theorem dX5_init_48 : decode cX5_init 48 = .ok (.putfield 35, 3) := dk_181 (by decide +kernel)
theorem dX5_init_51 : decode cX5_init 51 = .ok (.aload_n 0, 1) := dk_42 (by decide +kernel)
theorem dX5_init_52 : decode cX5_init 52 = .ok (.bipush 8, 2) := dk_16 (by decide +kernel)
theorem dX5_init_54 : decode cX5_init 54 = .ok (.newarray .int, 2) := by decide +kernel
theorem dX5_init_56 : decode cX5_init 56 = .ok (.putfield 38, 3) := dk_181 (by decide +kernel)
theorem dX5_init_59 : decode cX5_init 59 = .ok (.aload_n 0, 1) := dk_42 (by decide +kernel)
theorem dX5_init_60 : decode cX5_init 60 = .ok (.bipush 12, 2) := dk_16 (by decide +kernel)
theorem dX5_init_62 : decode cX5_init 62 = .ok (.newarray .int, 2) := by decide +kernel
theorem dX5_init_64 : decode cX5_init 64 = .ok (.putfield 41, 3) := dk_181 (by decide +kernel)
theorem dX5_init_67 : decode cX5_init 67 = .ok (.aload_n 0, 1) := dk_42 (by decide +kernel)
theorem dX5_init_68 : decode cX5_init 68 = .ok (.bipush 8, 2) := dk_16 (by decide +kernel)
theorem dX5_init_70 : decode cX5_init 70 = .ok (.invokestatic 44, 3) := dk_184 (by decide +kernel)
theorem dX5_init_73 : decode cX5_init 73 = .ok (.putfield 48, 3) := dk_181 (by decide +kernel)
theorem dX5_init_76 : decode cX5_init 76 = .ok (.aload_n 0, 1) := dk_42 (by decide +kernel)
theorem dX5_init_77 : decode cX5_init 77 = .ok (.iconst 3, 1) := dk_6 (by decide +kernel)
theorem dX5_init_78 : decode cX5_init 78 = .ok (.invokestatic 44, 3) := dk_184 (by decide +kernel)
theorem dX5_init_81 : decode cX5_init 81 = .ok (.putfield 52, 3) := dk_181 (by decide +kernel)
theorem dX5_init_84 : decode cX5_init 84 = .ok (.aload_n 0, 1) := dk_42 (by decide +kernel)
theorem dX5_init_85 : decode cX5_init 85 = .ok (.new 55, 3) := dk_187 (by decide +kernel)
theorem dX5_init_88 : decode cX5_init 88 = .ok (.dup, 1) := dk_89 (by decide +kernel)
theorem dX5_init_89 : decode cX5_init 89 = .ok (.invokespecial 57, 3) := dk_183 (by decide +kernel)
theorem dX5_init_92 : decode cX5_init 92 = .ok (.putfield 58, 3) := dk_181 (by decide +kernel)
theorem dX5_init_95 : decode cX5_init 95 = .ok (.aload_n 0, 1) := dk_42 (by decide +kernel)
theorem dX5_init_96 : decode cX5_init 96 = .ok (.bipush 8, 2) := dk_16 (by decide +kernel)
theorem dX5_init_98 : decode cX5_init 98 = .ok (.invokestatic 44, 3) := dk_184 (by decide +kernel)
theorem dX5_init_101 : decode cX5_init 101 = .ok (.putfield 62, 3) := dk_181 (by decide +kernel)
theorem dX5_init_104 : decode cX5_init 104 = .ok (.aload_n 0, 1) := dk_42 (by decide +kernel)
theorem dX5_init_105 : decode cX5_init 105 = .ok (.new 55, 3) := dk_187 (by decide +kernel)
theorem dX5_init_108 : decode cX5_init 108 = .ok (.dup, 1) := dk_89 (by decide +kernel)
theorem dX5_init_109 : decode cX5_init 109 = .ok (.invokespecial 57, 3) := dk_183 (by decide +kernel)
theorem dX5_init_112 : decode cX5_init 112 = .ok (.putfield 65, 3) := dk_181 (by decide +kernel)
theorem dX5_init_115 : decode cX5_init 115 = .ok (.aload_n 0, 1) := dk_42 (by decide +kernel)
theorem dX5_init_116 : decode cX5_init 116 = .ok (.new 55, 3) := dk_187 (by decide +kernel)
theorem dX5_init_119 : decode cX5_init 119 = .ok (.dup, 1) := dk_89 (by decide +kernel)
theorem dX5_init_120 : decode cX5_init 120 = .ok (.invokespecial 57, 3) := dk_183 (by decide +kernel)
theorem dX5_init_123 : decode cX5_init 123 = .ok (.putfield 68, 3) := dk_181 (by decide +kernel)
theorem dX5_init_126 : decode cX5_init 126 = .ok (.aload_n 0, 1) := dk_42 (by decide +kernel)
theorem dX5_init_127 : decode cX5_init 127 = .ok (.iconst 4, 1) := dk_7 (by decide +kernel)
theorem dX5_init_128 : decode cX5_init 128 = .ok (.invokestatic 44, 3) := dk_184 (by decide +kernel)
theorem dX5_init_131 : decode cX5_init 131 = .ok (.putfield 71, 3) := dk_181 (by decide +kernel)
theorem dX5_init_134 : decode cX5_init 134 = .ok (.aload_n 0, 1) := dk_42 (by decide +kernel)
theorem dX5_init_135 : decode cX5_init 135 = .ok (.aload_n 1, 1) := dk_43 (by decide +kernel)
theorem dX5_init_136 : decode cX5_init 136 = .ok (.putfield 74, 3) := dk_181 (by decide +kernel)
theorem dX5_init_139 : decode cX5_init 139 = .ok (.return_, 1) := dk_177 (by decide +kernel)
def wsKX5_init : List Cond := .code yX5_init cX5_init 2 none :: ([.methodLink RX5 3 objectInit, .instanceMethod objectInit, .code objectInit ⟨#[0xb1]⟩ 1 none, .classLink RX5 9 RX6, .instantiable RX6 13, .initialized RX6, .methodLink RX5 11 yX6_init, .instanceMethod yX6_init, .fieldLink RX5 12 "OptimaWorks$Solver" "tableau" "LOptimaWorks$Tableau;", .fieldLink RX5 18 "OptimaWorks$Solver" "counted" "I", .arrayClass .int, .fieldLink RX5 24 "OptimaWorks$Solver" "countedCase" "[I", .arrayClass .long, .fieldLink RX5 28 "OptimaWorks$Solver" "goalNumber" "[J", .fieldLink RX5 32 "OptimaWorks$Solver" "goalScale" "[J", .fieldLink RX5 35 "OptimaWorks$Solver" "start" "[I", .fieldLink RX5 38 "OptimaWorks$Solver" "column" "[I", .fieldLink RX5 41 "OptimaWorks$Solver" "chosen" "[I", .fieldLink RX5 48 "OptimaWorks$Solver" "answer" "[LOptimaWorks$Whole;", .fieldLink RX5 52 "OptimaWorks$Solver" "answerGoal" "[LOptimaWorks$Whole;", .classLink RX5 55 RX8, .instantiable RX8 3, .initialized RX8, .instanceMethod yX8_init, .fieldLink RX5 58 "OptimaWorks$Solver" "answerUnder" "LOptimaWorks$Whole;", .fieldLink RX5 62 "OptimaWorks$Solver" "trial" "[LOptimaWorks$Whole;", .fieldLink RX5 65 "OptimaWorks$Solver" "top" "LOptimaWorks$Whole;", .fieldLink RX5 68 "OptimaWorks$Solver" "bottom" "LOptimaWorks$Whole;", .fieldLink RX5 71 "OptimaWorks$Solver" "spare" "[LOptimaWorks$Whole;", .fieldLink RX5 74 "OptimaWorks$Solver" "model" "LOptimaWorks$Model;"] ++ wsX50 ++ wsX60 ++ wsX80 ++ (wsKX6_init) ++ (va_wsS RX5 44 yX5_wholes wsKX5_wholes) ++ (wsPX8_init))
theorem iwsKX5_init_in5 : ∀ w ∈ wsX50, w ∈ wsKX5_init := fun _ h => List.mem_cons_of_mem _ (List.mem_append_left _ (List.mem_append_left _ (List.mem_append_left _ (List.mem_append_left _ (List.mem_append_left _ (List.mem_append_right _ h))))))
theorem iwsKX5_init_in6 : ∀ w ∈ wsX60, w ∈ wsKX5_init := fun _ h => List.mem_cons_of_mem _ (List.mem_append_left _ (List.mem_append_left _ (List.mem_append_left _ (List.mem_append_left _ (List.mem_append_right _ h)))))
theorem iwsKX5_init_in8 : ∀ w ∈ wsX80, w ∈ wsKX5_init := fun _ h => List.mem_cons_of_mem _ (List.mem_append_left _ (List.mem_append_left _ (List.mem_append_left _ (List.mem_append_right _ h))))
theorem gwsKX5_init_0 : GoodIn wsKX5_init (wsKX6_init) := goodIn_sub (fun _ h => List.mem_cons_of_mem _ (List.mem_append_left _ (List.mem_append_left _ (List.mem_append_right _ h)))) (by decide +kernel)
theorem gwsKX5_init_1 : GoodIn wsKX5_init (va_wsS RX5 44 yX5_wholes wsKX5_wholes) := goodIn_sub (fun _ h => List.mem_cons_of_mem _ (List.mem_append_left _ (List.mem_append_right _ h))) (by decide +kernel)
theorem gwsKX5_init_2 : GoodIn wsKX5_init (wsPX8_init) := goodIn_sub (fun _ h => List.mem_cons_of_mem _ (List.mem_append_right _ h)) (by decide +kernel)
theorem hm_kl_X5_init_0 : (.initialized RX6 : Cond) ∈ wsKX5_init := by decide +kernel
theorem hm_kl_X5_init_1 : (.arrayClass .int : Cond) ∈ wsKX5_init := by decide +kernel
theorem hm_kl_X5_init_2 : (.arrayClass .long : Cond) ∈ wsKX5_init := by decide +kernel
theorem hm_kl_X5_init_3 : (.classLink RX5 55 RX8 : Cond) ∈ wsKX5_init := by decide +kernel
theorem hm_kl_X5_init_4 : (.instantiable RX8 3 : Cond) ∈ wsKX5_init := by decide +kernel
theorem hm_kl_X5_init_5 : (.initialized RX8 : Cond) ∈ wsKX5_init := by decide +kernel
theorem hm_kl_X5_init_6 : (.instanceMethod yX8_init : Cond) ∈ wsKX5_init := by decide +kernel
set_option maxHeartbeats 4000000 in
set_option maxRecDepth 100000 in
/-- a solver -/
theorem kl_X5_init (l : Launch) (dC : Nat → ClassId) (dI : Nat → Nat → Nat) (hO hM : Nat → Nat) (kb kw kI kZ : ClassId) (sz : Nat) : Met l yX5_init wsKX5_init ({ frames := 4, cells := 879, slots := 8021, locals := 81 }) (va_Pc [.ref (hO 0), .ref (hM 0)] (fun U => U.heap.size = sz ∧ va_P (dC, dI) vwCl ([(hO 0, .inr (5, [.null, .null, .int 0, .int 0, .int 0, .int 0, .null, .null, .null, .null, .null, .null, .null, .null, .null, .null, .null, .null, .null]))]) U.heap ∧ va_K (dC, dI) vwCl [(kb, .object "OptimaWorks$Whole"), (kw, .long), (kI, .int), (kZ, .boolean)] U ∧ va_D (fun _ => True) ([(hO 0, .inr (5, [.null, .null, .int 0, .int 0, .int 0, .int 0, .null, .null, .null, .null, .null, .null, .null, .null, .null, .null, .null, .null, .null]))]) ∧ CE (va_A ([(hO 0, .inr (5, [.null, .null, .int 0, .int 0, .int 0, .int 0, .null, .null, .null, .null, .null, .null, .null, .null, .null, .null, .null, .null, .null]))]) sz) U U.heap)) (va_Qv (fun (u : (Nat → Nat) × (Nat → Nat) × (Nat → Nat) × (Nat → Nat) × (Nat → Nat)) => True) (fun u t => va_P (dC, dI) vwCl (WO hO u.1 (fun j => ([kI, kw, kw, kI, kI, kI, kb, kb, kb, kb] : List ClassId).getD j kb) hM u.2.1 u.2.2.2.1 0 0 0 (-1) (fun _ => 0) (fun _ => 0) (fun _ => 0) (fun _ => 0) (fun _ => 0) (fun _ => 0) ++ (WQ u.2.1 u.2.2.1 (fun j => ([kb, kI, kI, kZ] : List ClassId).getD j kb) u.2.2.2.1 (fun _ => 0) (fun _ => 0) (fun _ => 0) 0 0 0 ++ (WW 432 u.2.2.2.1 u.2.2.2.2 kw (fun _ => 0) (fun _ => 0) (fun _ _ => 0)))) t.heap ∧ va_D (va_A ([(hO 0, .inr (5, [.null, .null, .int 0, .int 0, .int 0, .int 0, .null, .null, .null, .null, .null, .null, .null, .null, .null, .null, .null, .null, .null]))]) sz) (WO hO u.1 (fun j => ([kI, kw, kw, kI, kI, kI, kb, kb, kb, kb] : List ClassId).getD j kb) hM u.2.1 u.2.2.2.1 0 0 0 (-1) (fun _ => 0) (fun _ => 0) (fun _ => 0) (fun _ => 0) (fun _ => 0) (fun _ => 0) ++ (WQ u.2.1 u.2.2.1 (fun j => ([kb, kI, kI, kZ] : List ClassId).getD j kb) u.2.2.2.1 (fun _ => 0) (fun _ => 0) (fun _ => 0) 0 0 0 ++ (WW 432 u.2.2.2.1 u.2.2.2.2 kw (fun _ => 0) (fun _ => 0) (fun _ _ => 0))))) (va_A ([(hO 0, .inr (5, [.null, .null, .int 0, .int 0, .int 0, .int 0, .null, .null, .null, .null, .null, .null, .null, .null, .null, .null, .null, .null, .null]))]) sz)) 879 8021 (va_A ([(hO 0, .inr (5, [.null, .null, .int 0, .int 0, .int 0, .int 0, .null, .null, .null, .null, .null, .null, .null, .null, .null, .null, .null, .null, .null]))]) sz) := by
  refine Met.ofW (cc := cX5_init) (maxL := 2) (ret := none) (by decide) rfl ?_
  intro p e s m args below meth c s₁ B hml hv
  obtain ⟨rfl, hsz, hP, hK, hD0, hE⟩ := hv
  have hx := B.exec
  have hb := B.bytes
  have hr := B.returns
  have hts := atoms_spec (ws := wsKX5_init) B.pre
  have hown : s.vm.findClass RX5 = some m.cls := findClass_of_methodNamed B.named
  have hin : meth.name = "<init>" := (name_of_methodNamed B.named B.method).1
  subst hsz
  have hD := hD0.self (sz := s.heap.size)
  generalize hAe : va_A ([(hO 0, .inr (5, [.null, .null, .int 0, .int 0, .int 0, .int 0, .null, .null, .null, .null, .null, .null, .null, .null, .null, .null, .null, .null, .null]))]) s.heap.size = A at hD hE ⊢
  have hA : ∀ q : Nat, s.heap.size ≤ q → A q := fun q h => by rw [← hAe]; exact Or.inr h
  have hS : va_S A s.heap s.heap [] := va_S.rf
  have hl := lv_entry ([.ref (hO 0), .ref (hM 0)]) (n := 2) (Nat.le_of_ble_eq_true rfl)
  rw [lg_entry_eq]
  generalize (lg_sl ([.ref (hO 0), .ref (hM 0)]) ++ List.replicate (2 - (lg_sl ([.ref (hO 0), .ref (hM 0)])).length) Slot.unset).toArray = ls at hl ⊢
  have hl : lv_has ls 2 [(0, .ref (hO 0)), (1, .ref (hM 0))] := hl
  refine lv_aload_n hx hb dX5_init_0 rfl (lv_at hl 0 rfl) ?_
  refine W.objInit hx hb hown (hts (.methodLink RX5 3 objectInit) (by decide +kernel)) (hts (.instanceMethod objectInit) (by decide +kernel)) (hts (.code objectInit ⟨#[0xb1]⟩ 1 none) (by decide +kernel)) rfl (by rw [hml]; exact hl.1) rfl dX5_init_1 (by decide +kernel) (Nat.le_of_ble_eq_true rfl) ?_
  refine W.eq (g2 := F0 m 4 ls []) rfl ?_
  refine lv_aload_n hx hb dX5_init_4 rfl (lv_at hl 0 rfl) ?_
  refine va_new (ci := 6) (fs := [.null, .null, .null, .null, .null, .int 0, .int 0, .int 0, .null, .null, .null, .null, .null]) (C := RX6) (T := TX6) (N := 13) hx hb hts iwsKX5_init_in6 tyX6 tyX6_ok hown (hts (.classLink RX5 9 RX6) (by decide +kernel)) (hts (.instantiable RX6 13) (by decide +kernel)) (hts _ hm_kl_X5_init_0) hK hP hD hS hA rfl (by decide +kernel) (by first | decide +kernel | (dsimp only [headSpec] <;> omega)) (by first | decide +kernel | (dsimp only [headSpec] <;> omega)) dX5_init_5 (fun q5 H hP hD hS => ?_)
  obtain ⟨hQ, rfl⟩ : ∃ h9 : Nat → Nat, q5 = h9 0 := ⟨fun _ => q5, rfl⟩
  refine W.widen (k := 1) (n := 13) (by omega) (by omega) ?_
  refine lv_dup hx hb dX5_init_8 rfl ?_
  have p9 : List.Perm (α := Nat × va_E) (([(kc5 (hO 0) .null .null (.int 0) (.int 0) (.int 0) (.int 0) .null .null .null .null .null .null .null .null .null .null .null .null .null)]) ++ [(kc6 (hQ 0) .null .null .null .null .null (.int 0) (.int 0) (.int 0) .null .null .null .null .null)]) ([(kc6 (hQ 0) .null .null .null .null .null (.int 0) (.int 0) (.int 0) .null .null .null .null .null)] ++ ([(kc5 (hO 0) .null .null (.int 0) (.int 0) (.int 0) (.int 0) .null .null .null .null .null .null .null .null .null .null .null .null .null)])) := List.perm_append_comm
  have hPc := hP.mem (fun q h => p9.mem_iff.mpr (List.mem_append_left _ h))
  have hDc := (hD.perm p9).left
  have hKc := hK
  have hFc := freeG p9 hD hS hA
  refine va_callv (va_runI (As := []) (rest := [.ref (hQ 0), .ref (hO 0)]) ⟨hx, hb, hml, hown, hts⟩ (kl_X6_init l dC dI hQ kb kw kI kZ H.size) (cwI 0 hts gwsKX5_init_0 rfl rfl rfl (hts _ hm_kl_X5_init_0) (hts (.methodLink RX5 11 yX6_init) (by decide +kernel)) (hts (.instanceMethod yX6_init) (by decide +kernel)) rfl (by decide +kernel) ⟨by first | decide +kernel | (dsimp only [headSpec] <;> omega), by first | decide +kernel | (dsimp only [headSpec] <;> omega)⟩) ⟨fun a U g mk q => by obtain ⟨q0, q1, qP, qK, qD, qE⟩ := q; exact ⟨q0, q1, qP, va_K.moved (u := U) (U := U.calling g mk a) (Vm.Alike.refl U.vm) qK, qD, qE.call⟩, fun U hU hW => ⟨rfl, by rw [hU], by rw [hU]; exact hPc, va_K.moved hW.alike hKc, hDc.weaken (fun _ _ _ _ => trivial), by rw [hU]; exact (((hE : CE A s s.heap).kept hS.2.1).narrow (fun q h => hFc q h)).warm hW⟩⟩ rfl rfl hl.1 rfl (lv_room (Nat.le_of_ble_eq_true rfl)) dX5_init_9 ⟨by first | decide +kernel | (dsimp only [headSpec] <;> omega), by first | decide +kernel | (dsimp only [headSpec] <;> omega)⟩) hS (fun q _ h => hFc q h) hFc (fun u t H1 locs ht hvm hw9 hB hz1 hk1 hS => ?_)
  obtain ⟨aQ, hw6, lw6⟩ := u
  obtain ⟨hP1, hD1⟩ := hB
  dsimp only at hP1 hD1
  rw [ht] at hP1
  obtain ⟨hP, hD⟩ := frameG p9 (List.perm_append_comm : List.Perm (α := Nat × va_E) ([(hO 0, .inr (5, [.null, .null, .int 0, .int 0, .int 0, .int 0, .null, .null, .null, .null, .null, .null, .null, .null, .null, .null, .null, .null, .null]))] ++ (WQ hQ aQ (fun j => ([kb, kI, kI, kZ] : List ClassId).getD j kb) hw6 (fun _ => 0) (fun _ => 0) (fun _ => 0) 0 0 0 ++ (WW 406 hw6 lw6 kw (fun _ => 0) (fun _ => 0) (fun _ _ => 0)))) ((WQ hQ aQ (fun j => ([kb, kI, kI, kZ] : List ClassId).getD j kb) hw6 (fun _ => 0) (fun _ => 0) (fun _ => 0) 0 0 0 ++ (WW 406 hw6 lw6 kw (fun _ => 0) (fun _ => 0) (fun _ _ => 0))) ++ [(hO 0, .inr (5, [.null, .null, .int 0, .int 0, .int 0, .int 0, .null, .null, .null, .null, .null, .null, .null, .null, .null, .null, .null, .null, .null]))])) hP hD hk1 hFc hP1 hD1
  generalize H1 = H at hP hS ⊢
  clear p9 hPc hDc hKc hFc hP1 hD1 hk1 hz1 hw9
  obtain ⟨T9_0, eT9_0⟩ : ∃ t9 : va_W, t9 = WQ hQ aQ (fun j => ([kb, kI, kI, kZ] : List ClassId).getD j kb) hw6 (fun _ => 0) (fun _ => 0) (fun _ => 0) 0 0 0 ++ (WW 406 hw6 lw6 kw (fun _ => 0) (fun _ => 0) (fun _ _ => 0)) := ⟨_, rfl⟩
  have hP : va_P (dC, dI) vwCl ([(hO 0, .inr (5, [.null, .null, .int 0, .int 0, .int 0, .int 0, .null, .null, .null, .null, .null, .null, .null, .null, .null, .null, .null, .null, .null]))] ++ (T9_0)) H := by rw [eT9_0]; exact hP
  have hD : va_D A ([(hO 0, .inr (5, [.null, .null, .int 0, .int 0, .int 0, .int 0, .null, .null, .null, .null, .null, .null, .null, .null, .null, .null, .null, .null, .null]))] ++ (T9_0)) := by rw [eT9_0]; exact hD
  refine W.widen (k := 817) (n := 7437) (by omega) (by omega) ?_
  refine va_putF (D := (dC, dI)) (ci := 5) (v := .ref (hQ 0)) (ty := .object "OptimaWorks$Tableau") (C := RX5) (T := TX5) (N := 19) hx hb hts iwsKX5_init_in5 tyX5 tyX5_ok nmX5 hown hK hP hD hS 0 rfl rfl 1 (by decide) (hts (.fieldLink RX5 12 "OptimaWorks$Solver" "tableau" "LOptimaWorks$Tableau;") (by decide +kernel)) (fun _ h9 => h9) rfl hin rfl (by decide +kernel) rfl rfl (Nat.le_of_ble_eq_true rfl) dX5_init_12 (fun H locs hP hD hS => ?_)
  have hP : va_P (dC, dI) vwCl ([(hO 0, .inr (5, [.null, .ref (hQ 0), .int 0, .int 0, .int 0, .int 0, .null, .null, .null, .null, .null, .null, .null, .null, .null, .null, .null, .null, .null]))] ++ (T9_0)) H := hP
  have hD := fz_sd hP (hD) rfl
  refine lv_aload_n hx hb dX5_init_15 rfl (lv_at hl 0 rfl) ?_
  refine lv_iconst (v := (-1)) hx hb dX5_init_16 (by decide) ?_
  refine va_put (D := (dC, dI)) (ci := 5) (v := .int (-1)) (ty := .int) (C := RX5) (T := TX5) (N := 19) hx hb hts iwsKX5_init_in5 tyX5 tyX5_ok nmX5 hown hK hP hD hS 0 rfl rfl 5 (by decide) (hts (.fieldLink RX5 18 "OptimaWorks$Solver" "counted" "I") (by decide +kernel)) (fun _ h9 => h9) rfl (by decide +kernel) rfl rfl (Nat.le_of_ble_eq_true rfl) dX5_init_17 (fun H locs hP hD hS => ?_)
  have hP : va_P (dC, dI) vwCl ([(hO 0, .inr (5, [.null, .ref (hQ 0), .int 0, .int 0, .int 0, .int (-1), .null, .null, .null, .null, .null, .null, .null, .null, .null, .null, .null, .null, .null]))] ++ (T9_0)) H := hP
  have hD := fz_sd hP (hD) rfl
  refine lv_aload_n hx hb dX5_init_20 rfl (lv_at hl 0 rfl) ?_
  refine lv_bipush (v := 64) hx hb dX5_init_21 (by decide) ?_
  refine va_newa (atype := .int) (ty := .int) (N' := 64) (a0 := (64, .inl (fun _ => 0))) hx hb (hts _ hm_kl_X5_init_1) rfl hK hP hD hS hA (fun _ => rfl) (by decide) (by decide) (by decide +kernel) (by first | decide +kernel | (dsimp only [headSpec] <;> omega)) (by first | decide +kernel | (dsimp only [headSpec] <;> omega)) dX5_init_23 (fun q23 cA H hKn hP hD hS => ?_)
  obtain rfl : kI = cA := (va_K.cl2 hKn hK (i := 4) (j := 2) rfl rfl).symm
  clear hKn
  have hP := hP.mem (fun q h => (perm_mid (a := [(kc5 (hO 0) .null (.ref (hQ 0)) (.int 0) (.int 0) (.int 0) (.int (-1)) .null .null .null .null .null .null .null .null .null .null .null .null .null)]) (t := T9_0) (x := (kr0 q23 kI 64))).mem_iff.mpr h)
  have hD := hD.perm (perm_mid (a := [(kc5 (hO 0) .null (.ref (hQ 0)) (.int 0) (.int 0) (.int 0) (.int (-1)) .null .null .null .null .null .null .null .null .null .null .null .null .null)]) (t := T9_0) (x := (kr0 q23 kI 64)))
  have hP : va_P (dC, dI) vwCl ([(kc5 (hO 0) .null (.ref (hQ 0)) (.int 0) (.int 0) (.int 0) (.int (-1)) .null .null .null .null .null .null .null .null .null .null .null .null .null), (kr0 q23 kI 64)] ++ (T9_0)) H := hP
  have hD := fz_sd hP (hD) rfl
  refine W.widen (k := 818) (n := 7501) (by omega) (by omega) ?_
  refine va_putF (D := (dC, dI)) (ci := 5) (v := .ref q23) (ty := .array .int) (C := RX5) (T := TX5) (N := 19) hx hb hts iwsKX5_init_in5 tyX5 tyX5_ok nmX5 hown hK hP hD hS 0 rfl rfl 6 (by decide) (hts (.fieldLink RX5 24 "OptimaWorks$Solver" "countedCase" "[I") (by decide +kernel)) (fun _ h9 => h9) rfl hin rfl (by decide +kernel) rfl rfl (Nat.le_of_ble_eq_true rfl) dX5_init_25 (fun H locs hP hD hS => ?_)
  have hP : va_P (dC, dI) vwCl ([(kc5 (hO 0) .null (.ref (hQ 0)) (.int 0) (.int 0) (.int 0) (.int (-1)) (.ref q23) .null .null .null .null .null .null .null .null .null .null .null .null), (kr0 q23 kI 64)] ++ (T9_0)) H := hP
  have hD := fz_sd hP (hD) rfl
  refine lv_aload_n hx hb dX5_init_28 rfl (lv_at hl 0 rfl) ?_
  refine lv_bipush (v := 24) hx hb dX5_init_29 (by decide) ?_
  refine va_newa (atype := .long) (ty := .long) (N' := 24) (a0 := (24, .inr (.inl (fun _ => 0)))) hx hb (hts _ hm_kl_X5_init_2) rfl hK hP hD hS hA (fun _ => rfl) (by decide) (by decide) (by decide +kernel) (by first | decide +kernel | (dsimp only [headSpec] <;> omega)) (by first | decide +kernel | (dsimp only [headSpec] <;> omega)) dX5_init_31 (fun q31 cA H hKn hP hD hS => ?_)
  obtain rfl : kw = cA := (va_K.cl2 hKn hK (i := 4) (j := 1) rfl rfl).symm
  clear hKn
  have hP := hP.mem (fun q h => (perm_mid (a := [(kc5 (hO 0) .null (.ref (hQ 0)) (.int 0) (.int 0) (.int 0) (.int (-1)) (.ref q23) .null .null .null .null .null .null .null .null .null .null .null .null), (kr0 q23 kI 64)]) (t := T9_0) (x := (kl0 q31 kw 24))).mem_iff.mpr h)
  have hD := hD.perm (perm_mid (a := [(kc5 (hO 0) .null (.ref (hQ 0)) (.int 0) (.int 0) (.int 0) (.int (-1)) (.ref q23) .null .null .null .null .null .null .null .null .null .null .null .null), (kr0 q23 kI 64)]) (t := T9_0) (x := (kl0 q31 kw 24)))
  have hP : va_P (dC, dI) vwCl ([(kc5 (hO 0) .null (.ref (hQ 0)) (.int 0) (.int 0) (.int 0) (.int (-1)) (.ref q23) .null .null .null .null .null .null .null .null .null .null .null .null), (kr0 q23 kI 64), (kl0 q31 kw 24)] ++ (T9_0)) H := hP
  have hD := fz_sd hP (hD) rfl
  refine W.widen (k := 819) (n := 7525) (by omega) (by omega) ?_
  refine va_putF (D := (dC, dI)) (ci := 5) (v := .ref q31) (ty := .array .long) (C := RX5) (T := TX5) (N := 19) hx hb hts iwsKX5_init_in5 tyX5 tyX5_ok nmX5 hown hK hP hD hS 0 rfl rfl 7 (by decide) (hts (.fieldLink RX5 28 "OptimaWorks$Solver" "goalNumber" "[J") (by decide +kernel)) (fun _ h9 => h9) rfl hin rfl (by decide +kernel) rfl rfl (Nat.le_of_ble_eq_true rfl) dX5_init_33 (fun H locs hP hD hS => ?_)
  have hP : va_P (dC, dI) vwCl ([(kc5 (hO 0) .null (.ref (hQ 0)) (.int 0) (.int 0) (.int 0) (.int (-1)) (.ref q23) (.ref q31) .null .null .null .null .null .null .null .null .null .null .null), (kr0 q23 kI 64), (kl0 q31 kw 24)] ++ (T9_0)) H := hP
  have hD := fz_sd hP (hD) rfl
  refine lv_aload_n hx hb dX5_init_36 rfl (lv_at hl 0 rfl) ?_
  refine lv_iconst (v := 3) hx hb dX5_init_37 (by decide) ?_
  refine va_newa (atype := .long) (ty := .long) (N' := 3) (a0 := (3, .inr (.inl (fun _ => 0)))) hx hb (hts _ hm_kl_X5_init_2) rfl hK hP hD hS hA (fun _ => rfl) (by decide) (by decide) (by decide +kernel) (by first | decide +kernel | (dsimp only [headSpec] <;> omega)) (by first | decide +kernel | (dsimp only [headSpec] <;> omega)) dX5_init_38 (fun q38 cA H hKn hP hD hS => ?_)
  obtain rfl : kw = cA := (va_K.cl2 hKn hK (i := 4) (j := 1) rfl rfl).symm
  clear hKn
  have hP := hP.mem (fun q h => (perm_mid (a := [(kc5 (hO 0) .null (.ref (hQ 0)) (.int 0) (.int 0) (.int 0) (.int (-1)) (.ref q23) (.ref q31) .null .null .null .null .null .null .null .null .null .null .null), (kr0 q23 kI 64), (kl0 q31 kw 24)]) (t := T9_0) (x := (kl0 q38 kw 3))).mem_iff.mpr h)
  have hD := hD.perm (perm_mid (a := [(kc5 (hO 0) .null (.ref (hQ 0)) (.int 0) (.int 0) (.int 0) (.int (-1)) (.ref q23) (.ref q31) .null .null .null .null .null .null .null .null .null .null .null), (kr0 q23 kI 64), (kl0 q31 kw 24)]) (t := T9_0) (x := (kl0 q38 kw 3)))
  have hP : va_P (dC, dI) vwCl ([(kc5 (hO 0) .null (.ref (hQ 0)) (.int 0) (.int 0) (.int 0) (.int (-1)) (.ref q23) (.ref q31) .null .null .null .null .null .null .null .null .null .null .null), (kr0 q23 kI 64), (kl0 q31 kw 24), (kl0 q38 kw 3)] ++ (T9_0)) H := hP
  have hD := fz_sd hP (hD) rfl
  refine W.widen (k := 820) (n := 7528) (by omega) (by omega) ?_
  refine va_putF (D := (dC, dI)) (ci := 5) (v := .ref q38) (ty := .array .long) (C := RX5) (T := TX5) (N := 19) hx hb hts iwsKX5_init_in5 tyX5 tyX5_ok nmX5 hown hK hP hD hS 0 rfl rfl 8 (by decide) (hts (.fieldLink RX5 32 "OptimaWorks$Solver" "goalScale" "[J") (by decide +kernel)) (fun _ h9 => h9) rfl hin rfl (by decide +kernel) rfl rfl (Nat.le_of_ble_eq_true rfl) dX5_init_40 (fun H locs hP hD hS => ?_)
  have hP : va_P (dC, dI) vwCl ([(kc5 (hO 0) .null (.ref (hQ 0)) (.int 0) (.int 0) (.int 0) (.int (-1)) (.ref q23) (.ref q31) (.ref q38) .null .null .null .null .null .null .null .null .null .null), (kr0 q23 kI 64), (kl0 q31 kw 24), (kl0 q38 kw 3)] ++ (T9_0)) H := hP
  have hD := fz_sd hP (hD) rfl
  refine lv_aload_n hx hb dX5_init_43 rfl (lv_at hl 0 rfl) ?_
  refine lv_bipush (v := 8) hx hb dX5_init_44 (by decide) ?_
  refine va_newa (atype := .int) (ty := .int) (N' := 8) (a0 := (8, .inl (fun _ => 0))) hx hb (hts _ hm_kl_X5_init_1) rfl hK hP hD hS hA (fun _ => rfl) (by decide) (by decide) (by decide +kernel) (by first | decide +kernel | (dsimp only [headSpec] <;> omega)) (by first | decide +kernel | (dsimp only [headSpec] <;> omega)) dX5_init_46 (fun q46 cA H hKn hP hD hS => ?_)
  obtain rfl : kI = cA := (va_K.cl2 hKn hK (i := 4) (j := 2) rfl rfl).symm
  clear hKn
  have hP := hP.mem (fun q h => (perm_mid (a := [(kc5 (hO 0) .null (.ref (hQ 0)) (.int 0) (.int 0) (.int 0) (.int (-1)) (.ref q23) (.ref q31) (.ref q38) .null .null .null .null .null .null .null .null .null .null), (kr0 q23 kI 64), (kl0 q31 kw 24), (kl0 q38 kw 3)]) (t := T9_0) (x := (kr0 q46 kI 8))).mem_iff.mpr h)
  have hD := hD.perm (perm_mid (a := [(kc5 (hO 0) .null (.ref (hQ 0)) (.int 0) (.int 0) (.int 0) (.int (-1)) (.ref q23) (.ref q31) (.ref q38) .null .null .null .null .null .null .null .null .null .null), (kr0 q23 kI 64), (kl0 q31 kw 24), (kl0 q38 kw 3)]) (t := T9_0) (x := (kr0 q46 kI 8)))
  have hP : va_P (dC, dI) vwCl ([(kc5 (hO 0) .null (.ref (hQ 0)) (.int 0) (.int 0) (.int 0) (.int (-1)) (.ref q23) (.ref q31) (.ref q38) .null .null .null .null .null .null .null .null .null .null), (kr0 q23 kI 64), (kl0 q31 kw 24), (kl0 q38 kw 3), (kr0 q46 kI 8)] ++ (T9_0)) H := hP
  have hD := fz_sd hP (hD) rfl
  refine W.widen (k := 821) (n := 7536) (by omega) (by omega) ?_
  refine va_putF (D := (dC, dI)) (ci := 5) (v := .ref q46) (ty := .array .int) (C := RX5) (T := TX5) (N := 19) hx hb hts iwsKX5_init_in5 tyX5 tyX5_ok nmX5 hown hK hP hD hS 0 rfl rfl 9 (by decide) (hts (.fieldLink RX5 35 "OptimaWorks$Solver" "start" "[I") (by decide +kernel)) (fun _ h9 => h9) rfl hin rfl (by decide +kernel) rfl rfl (Nat.le_of_ble_eq_true rfl) dX5_init_48 (fun H locs hP hD hS => ?_)
  have hP : va_P (dC, dI) vwCl ([(kc5 (hO 0) .null (.ref (hQ 0)) (.int 0) (.int 0) (.int 0) (.int (-1)) (.ref q23) (.ref q31) (.ref q38) (.ref q46) .null .null .null .null .null .null .null .null .null), (kr0 q23 kI 64), (kl0 q31 kw 24), (kl0 q38 kw 3), (kr0 q46 kI 8)] ++ (T9_0)) H := hP
  have hD := fz_sd hP (hD) rfl
  refine lv_aload_n hx hb dX5_init_51 rfl (lv_at hl 0 rfl) ?_
  refine lv_bipush (v := 8) hx hb dX5_init_52 (by decide) ?_
  refine va_newa (atype := .int) (ty := .int) (N' := 8) (a0 := (8, .inl (fun _ => 0))) hx hb (hts _ hm_kl_X5_init_1) rfl hK hP hD hS hA (fun _ => rfl) (by decide) (by decide) (by decide +kernel) (by first | decide +kernel | (dsimp only [headSpec] <;> omega)) (by first | decide +kernel | (dsimp only [headSpec] <;> omega)) dX5_init_54 (fun q54 cA H hKn hP hD hS => ?_)
  obtain rfl : kI = cA := (va_K.cl2 hKn hK (i := 4) (j := 2) rfl rfl).symm
  clear hKn
  have hP := hP.mem (fun q h => (perm_mid (a := [(kc5 (hO 0) .null (.ref (hQ 0)) (.int 0) (.int 0) (.int 0) (.int (-1)) (.ref q23) (.ref q31) (.ref q38) (.ref q46) .null .null .null .null .null .null .null .null .null), (kr0 q23 kI 64), (kl0 q31 kw 24), (kl0 q38 kw 3), (kr0 q46 kI 8)]) (t := T9_0) (x := (kr0 q54 kI 8))).mem_iff.mpr h)
  have hD := hD.perm (perm_mid (a := [(kc5 (hO 0) .null (.ref (hQ 0)) (.int 0) (.int 0) (.int 0) (.int (-1)) (.ref q23) (.ref q31) (.ref q38) (.ref q46) .null .null .null .null .null .null .null .null .null), (kr0 q23 kI 64), (kl0 q31 kw 24), (kl0 q38 kw 3), (kr0 q46 kI 8)]) (t := T9_0) (x := (kr0 q54 kI 8)))
  have hP : va_P (dC, dI) vwCl ([(kc5 (hO 0) .null (.ref (hQ 0)) (.int 0) (.int 0) (.int 0) (.int (-1)) (.ref q23) (.ref q31) (.ref q38) (.ref q46) .null .null .null .null .null .null .null .null .null), (kr0 q23 kI 64), (kl0 q31 kw 24), (kl0 q38 kw 3), (kr0 q46 kI 8), (kr0 q54 kI 8)] ++ (T9_0)) H := hP
  have hD := fz_sd hP (hD) rfl
  refine W.widen (k := 822) (n := 7544) (by omega) (by omega) ?_
  refine va_putF (D := (dC, dI)) (ci := 5) (v := .ref q54) (ty := .array .int) (C := RX5) (T := TX5) (N := 19) hx hb hts iwsKX5_init_in5 tyX5 tyX5_ok nmX5 hown hK hP hD hS 0 rfl rfl 10 (by decide) (hts (.fieldLink RX5 38 "OptimaWorks$Solver" "column" "[I") (by decide +kernel)) (fun _ h9 => h9) rfl hin rfl (by decide +kernel) rfl rfl (Nat.le_of_ble_eq_true rfl) dX5_init_56 (fun H locs hP hD hS => ?_)
  have hP : va_P (dC, dI) vwCl ([(kc5 (hO 0) .null (.ref (hQ 0)) (.int 0) (.int 0) (.int 0) (.int (-1)) (.ref q23) (.ref q31) (.ref q38) (.ref q46) (.ref q54) .null .null .null .null .null .null .null .null), (kr0 q23 kI 64), (kl0 q31 kw 24), (kl0 q38 kw 3), (kr0 q46 kI 8), (kr0 q54 kI 8)] ++ (T9_0)) H := hP
  have hD := fz_sd hP (hD) rfl
  refine lv_aload_n hx hb dX5_init_59 rfl (lv_at hl 0 rfl) ?_
  refine lv_bipush (v := 12) hx hb dX5_init_60 (by decide) ?_
  refine va_newa (atype := .int) (ty := .int) (N' := 12) (a0 := (12, .inl (fun _ => 0))) hx hb (hts _ hm_kl_X5_init_1) rfl hK hP hD hS hA (fun _ => rfl) (by decide) (by decide) (by decide +kernel) (by first | decide +kernel | (dsimp only [headSpec] <;> omega)) (by first | decide +kernel | (dsimp only [headSpec] <;> omega)) dX5_init_62 (fun q62 cA H hKn hP hD hS => ?_)
  obtain rfl : kI = cA := (va_K.cl2 hKn hK (i := 4) (j := 2) rfl rfl).symm
  clear hKn
  have hP := hP.mem (fun q h => (perm_mid (a := [(kc5 (hO 0) .null (.ref (hQ 0)) (.int 0) (.int 0) (.int 0) (.int (-1)) (.ref q23) (.ref q31) (.ref q38) (.ref q46) (.ref q54) .null .null .null .null .null .null .null .null), (kr0 q23 kI 64), (kl0 q31 kw 24), (kl0 q38 kw 3), (kr0 q46 kI 8), (kr0 q54 kI 8)]) (t := T9_0) (x := (kr0 q62 kI 12))).mem_iff.mpr h)
  have hD := hD.perm (perm_mid (a := [(kc5 (hO 0) .null (.ref (hQ 0)) (.int 0) (.int 0) (.int 0) (.int (-1)) (.ref q23) (.ref q31) (.ref q38) (.ref q46) (.ref q54) .null .null .null .null .null .null .null .null), (kr0 q23 kI 64), (kl0 q31 kw 24), (kl0 q38 kw 3), (kr0 q46 kI 8), (kr0 q54 kI 8)]) (t := T9_0) (x := (kr0 q62 kI 12)))
  have hP : va_P (dC, dI) vwCl ([(kc5 (hO 0) .null (.ref (hQ 0)) (.int 0) (.int 0) (.int 0) (.int (-1)) (.ref q23) (.ref q31) (.ref q38) (.ref q46) (.ref q54) .null .null .null .null .null .null .null .null), (kr0 q23 kI 64), (kl0 q31 kw 24), (kl0 q38 kw 3), (kr0 q46 kI 8), (kr0 q54 kI 8), (kr0 q62 kI 12)] ++ (T9_0)) H := hP
  have hD := fz_sd hP (hD) rfl
  refine W.widen (k := 823) (n := 7556) (by omega) (by omega) ?_
  refine va_putF (D := (dC, dI)) (ci := 5) (v := .ref q62) (ty := .array .int) (C := RX5) (T := TX5) (N := 19) hx hb hts iwsKX5_init_in5 tyX5 tyX5_ok nmX5 hown hK hP hD hS 0 rfl rfl 11 (by decide) (hts (.fieldLink RX5 41 "OptimaWorks$Solver" "chosen" "[I") (by decide +kernel)) (fun _ h9 => h9) rfl hin rfl (by decide +kernel) rfl rfl (Nat.le_of_ble_eq_true rfl) dX5_init_64 (fun H locs hP hD hS => ?_)
  have hP : va_P (dC, dI) vwCl ([(kc5 (hO 0) .null (.ref (hQ 0)) (.int 0) (.int 0) (.int 0) (.int (-1)) (.ref q23) (.ref q31) (.ref q38) (.ref q46) (.ref q54) (.ref q62) .null .null .null .null .null .null .null), (kr0 q23 kI 64), (kl0 q31 kw 24), (kl0 q38 kw 3), (kr0 q46 kI 8), (kr0 q54 kI 8), (kr0 q62 kI 12)] ++ (T9_0)) H := hP
  have hD := fz_sd hP (hD) rfl
  refine lv_aload_n hx hb dX5_init_67 rfl (lv_at hl 0 rfl) ?_
  refine lv_bipush (v := 8) hx hb dX5_init_68 (by decide) ?_
  have hFc := noneFree hS hA
  have hPc := (nilP : va_P (dC, dI) vwCl [] H)
  have hDc := (nilD : va_D A [])
  have hKc : va_K (dC, dI) vwCl ([(kb, .object "OptimaWorks$Whole"), (kw, .long)]) _ := hK.sub [0, 1] rfl
  refine va_callr (va_runS (As := [.int 8]) (rest := [.ref (hO 0)]) ⟨hx, hb, hml, hown, hts⟩ (k_X5_wholes l dC dI kb kw 8 8 (by decide) (by decide) H.size) (va_cwS 1 hts gwsKX5_init_1 rfl rfl rfl (by decide +kernel) ⟨by first | decide +kernel | (dsimp only [headSpec] <;> omega), by first | decide +kernel | (dsimp only [headSpec] <;> omega)⟩) ⟨fun a U g mk q => by obtain ⟨q0, q1, qP, qK, qD, qE⟩ := q; exact ⟨q0, q1, qP, va_K.moved (u := U) (U := U.calling g mk a) (Vm.Alike.refl U.vm) qK, qD, qE.call⟩, fun U hU hW => ⟨rfl, by rw [hU], by rw [hU]; exact hPc, va_K.moved hW.alike hKc, hDc.weaken (fun _ _ _ _ => trivial), by rw [hU]; exact (((hE : CE A s s.heap).kept hS.2.1).narrow (fun q h => hFc q h)).warm hW⟩⟩ rfl rfl hl.1 rfl (lv_room (Nat.le_of_ble_eq_true rfl)) dX5_init_70 ⟨by first | decide +kernel | (dsimp only [headSpec] <;> omega), by first | decide +kernel | (dsimp only [headSpec] <;> omega)⟩) hS (fun q _ h => hFc q h) hFc (fun u r70 t H1 locs ht hvm hw9 hB hz1 hk1 hS => ?_)
  obtain ⟨h70, l70⟩ := u
  obtain ⟨hP1, hD1⟩ := hB
  dsimp only at hP1 hD1
  rw [ht] at hP1
  have p8 : List.Perm (α := Nat × va_E) (([(kc5 (hO 0) .null (.ref (hQ 0)) (.int 0) (.int 0) (.int 0) (.int (-1)) (.ref q23) (.ref q31) (.ref q38) (.ref q46) (.ref q54) (.ref q62) .null .null .null .null .null .null .null), (kr0 q23 kI 64), (kl0 q31 kw 24), (kl0 q38 kw 3), (kr0 q46 kI 8), (kr0 q54 kI 8), (kr0 q62 kI 12)] ++ [(kq0 r70 kb 8 (fW 8 h70))]) ++ (WW 8 h70 l70 kw (fun _ => 0) (fun _ => 0) (fun _ _ => 0) ++ (T9_0))) (([(kq0 r70 kb 8 (fW 8 h70))] ++ WW 8 h70 l70 kw (fun _ => 0) (fun _ => 0) (fun _ _ => 0)) ++ ([(kc5 (hO 0) .null (.ref (hQ 0)) (.int 0) (.int 0) (.int 0) (.int (-1)) (.ref q23) (.ref q31) (.ref q38) (.ref q46) (.ref q54) (.ref q62) .null .null .null .null .null .null .null), (kr0 q23 kI 64), (kl0 q31 kw 24), (kl0 q38 kw 3), (kr0 q46 kI 8), (kr0 q54 kI 8), (kr0 q62 kI 12)] ++ (T9_0))) := perm_in
  obtain ⟨hP, hD⟩ := frameG (ws := [(kc5 (hO 0) .null (.ref (hQ 0)) (.int 0) (.int 0) (.int 0) (.int (-1)) (.ref q23) (.ref q31) (.ref q38) (.ref q46) (.ref q54) (.ref q62) .null .null .null .null .null .null .null), (kr0 q23 kI 64), (kl0 q31 kw 24), (kl0 q38 kw 3), (kr0 q46 kI 8), (kr0 q54 kI 8), (kr0 q62 kI 12)] ++ (T9_0)) (ws' := ([(kc5 (hO 0) .null (.ref (hQ 0)) (.int 0) (.int 0) (.int 0) (.int (-1)) (.ref q23) (.ref q31) (.ref q38) (.ref q46) (.ref q54) (.ref q62) .null .null .null .null .null .null .null), (kr0 q23 kI 64), (kl0 q31 kw 24), (kl0 q38 kw 3), (kr0 q46 kI 8), (kr0 q54 kI 8), (kr0 q62 kI 12)] ++ [(kq0 r70 kb 8 (fW 8 h70))]) ++ (WW 8 h70 l70 kw (fun _ => 0) (fun _ => 0) (fun _ _ => 0) ++ (T9_0))) (X := []) (R := [(kc5 (hO 0) .null (.ref (hQ 0)) (.int 0) (.int 0) (.int 0) (.int (-1)) (.ref q23) (.ref q31) (.ref q38) (.ref q46) (.ref q54) (.ref q62) .null .null .null .null .null .null .null), (kr0 q23 kI 64), (kl0 q31 kw 24), (kl0 q38 kw 3), (kr0 q46 kI 8), (kr0 q54 kI 8), (kr0 q62 kI 12)] ++ (T9_0)) perm_nil p8 hP hD hk1 hFc hP1 hD1
  generalize H1 = H at hP hS ⊢
  clear p8 hPc hDc hKc hFc hP1 hD1 hk1 hz1 hw9
  obtain ⟨T9_1, eT9_1⟩ : ∃ t9 : va_W, t9 = WW 8 h70 l70 kw (fun _ => 0) (fun _ => 0) (fun _ _ => 0) ++ (T9_0) := ⟨_, rfl⟩
  have hP : va_P (dC, dI) vwCl ([(kc5 (hO 0) .null (.ref (hQ 0)) (.int 0) (.int 0) (.int 0) (.int (-1)) (.ref q23) (.ref q31) (.ref q38) (.ref q46) (.ref q54) (.ref q62) .null .null .null .null .null .null .null), (kr0 q23 kI 64), (kl0 q31 kw 24), (kl0 q38 kw 3), (kr0 q46 kI 8), (kr0 q54 kI 8), (kr0 q62 kI 12), (kq0 r70 kb 8 (fW 8 h70))] ++ (T9_1)) H := by rw [eT9_1]; exact hP
  have hD : va_D A ([(kc5 (hO 0) .null (.ref (hQ 0)) (.int 0) (.int 0) (.int 0) (.int (-1)) (.ref q23) (.ref q31) (.ref q38) (.ref q46) (.ref q54) (.ref q62) .null .null .null .null .null .null .null), (kr0 q23 kI 64), (kl0 q31 kw 24), (kl0 q38 kw 3), (kr0 q46 kI 8), (kr0 q54 kI 8), (kr0 q62 kI 12), (kq0 r70 kb 8 (fW 8 h70))] ++ (T9_1)) := by rw [eT9_1]; exact hD
  refine W.widen (k := 840) (n := 7700) (by omega) (by omega) ?_
  refine va_putF (D := (dC, dI)) (ci := 5) (v := .ref r70) (ty := .array (.object "OptimaWorks$Whole")) (C := RX5) (T := TX5) (N := 19) hx hb hts iwsKX5_init_in5 tyX5 tyX5_ok nmX5 hown hK hP hD hS 0 rfl rfl 12 (by decide) (hts (.fieldLink RX5 48 "OptimaWorks$Solver" "answer" "[LOptimaWorks$Whole;") (by decide +kernel)) (fun _ h9 => h9) rfl hin rfl (by decide +kernel) rfl rfl (Nat.le_of_ble_eq_true rfl) dX5_init_73 (fun H locs hP hD hS => ?_)
  have hP : va_P (dC, dI) vwCl ([(kc5 (hO 0) .null (.ref (hQ 0)) (.int 0) (.int 0) (.int 0) (.int (-1)) (.ref q23) (.ref q31) (.ref q38) (.ref q46) (.ref q54) (.ref q62) (.ref r70) .null .null .null .null .null .null), (kr0 q23 kI 64), (kl0 q31 kw 24), (kl0 q38 kw 3), (kr0 q46 kI 8), (kr0 q54 kI 8), (kr0 q62 kI 12), (kq0 r70 kb 8 (fW 8 h70))] ++ (T9_1)) H := hP
  have hD := fz_sd hP (hD) rfl
  refine lv_aload_n hx hb dX5_init_76 rfl (lv_at hl 0 rfl) ?_
  refine lv_iconst (v := 3) hx hb dX5_init_77 (by decide) ?_
  have hFc := noneFree hS hA
  have hPc := (nilP : va_P (dC, dI) vwCl [] H)
  have hDc := (nilD : va_D A [])
  have hKc : va_K (dC, dI) vwCl ([(kb, .object "OptimaWorks$Whole"), (kw, .long)]) _ := hK.sub [0, 1] rfl
  refine va_callr (va_runS (As := [.int 3]) (rest := [.ref (hO 0)]) ⟨hx, hb, hml, hown, hts⟩ (k_X5_wholes l dC dI kb kw 3 3 (by decide) (by decide) H.size) (va_cwS 1 hts gwsKX5_init_1 rfl rfl rfl (by decide +kernel) ⟨by first | decide +kernel | (dsimp only [headSpec] <;> omega), by first | decide +kernel | (dsimp only [headSpec] <;> omega)⟩) ⟨fun a U g mk q => by obtain ⟨q0, q1, qP, qK, qD, qE⟩ := q; exact ⟨q0, q1, qP, va_K.moved (u := U) (U := U.calling g mk a) (Vm.Alike.refl U.vm) qK, qD, qE.call⟩, fun U hU hW => ⟨rfl, by rw [hU], by rw [hU]; exact hPc, va_K.moved hW.alike hKc, hDc.weaken (fun _ _ _ _ => trivial), by rw [hU]; exact (((hE : CE A s s.heap).kept hS.2.1).narrow (fun q h => hFc q h)).warm hW⟩⟩ rfl rfl hl.1 rfl (lv_room (Nat.le_of_ble_eq_true rfl)) dX5_init_78 ⟨by first | decide +kernel | (dsimp only [headSpec] <;> omega), by first | decide +kernel | (dsimp only [headSpec] <;> omega)⟩) hS (fun q _ h => hFc q h) hFc (fun u r78 t H1 locs ht hvm hw9 hB hz1 hk1 hS => ?_)
  obtain ⟨h78, l78⟩ := u
  obtain ⟨hP1, hD1⟩ := hB
  dsimp only at hP1 hD1
  rw [ht] at hP1
  have p8 : List.Perm (α := Nat × va_E) (([(kc5 (hO 0) .null (.ref (hQ 0)) (.int 0) (.int 0) (.int 0) (.int (-1)) (.ref q23) (.ref q31) (.ref q38) (.ref q46) (.ref q54) (.ref q62) (.ref r70) .null .null .null .null .null .null), (kr0 q23 kI 64), (kl0 q31 kw 24), (kl0 q38 kw 3), (kr0 q46 kI 8), (kr0 q54 kI 8), (kr0 q62 kI 12), (kq0 r70 kb 8 (fW 8 h70))] ++ [(kq0 r78 kb 3 (fW 3 h78))]) ++ (WW 3 h78 l78 kw (fun _ => 0) (fun _ => 0) (fun _ _ => 0) ++ (T9_1))) (([(kq0 r78 kb 3 (fW 3 h78))] ++ WW 3 h78 l78 kw (fun _ => 0) (fun _ => 0) (fun _ _ => 0)) ++ ([(kc5 (hO 0) .null (.ref (hQ 0)) (.int 0) (.int 0) (.int 0) (.int (-1)) (.ref q23) (.ref q31) (.ref q38) (.ref q46) (.ref q54) (.ref q62) (.ref r70) .null .null .null .null .null .null), (kr0 q23 kI 64), (kl0 q31 kw 24), (kl0 q38 kw 3), (kr0 q46 kI 8), (kr0 q54 kI 8), (kr0 q62 kI 12), (kq0 r70 kb 8 (fW 8 h70))] ++ (T9_1))) := perm_in
  obtain ⟨hP, hD⟩ := frameG (ws := [(kc5 (hO 0) .null (.ref (hQ 0)) (.int 0) (.int 0) (.int 0) (.int (-1)) (.ref q23) (.ref q31) (.ref q38) (.ref q46) (.ref q54) (.ref q62) (.ref r70) .null .null .null .null .null .null), (kr0 q23 kI 64), (kl0 q31 kw 24), (kl0 q38 kw 3), (kr0 q46 kI 8), (kr0 q54 kI 8), (kr0 q62 kI 12), (kq0 r70 kb 8 (fW 8 h70))] ++ (T9_1)) (ws' := ([(kc5 (hO 0) .null (.ref (hQ 0)) (.int 0) (.int 0) (.int 0) (.int (-1)) (.ref q23) (.ref q31) (.ref q38) (.ref q46) (.ref q54) (.ref q62) (.ref r70) .null .null .null .null .null .null), (kr0 q23 kI 64), (kl0 q31 kw 24), (kl0 q38 kw 3), (kr0 q46 kI 8), (kr0 q54 kI 8), (kr0 q62 kI 12), (kq0 r70 kb 8 (fW 8 h70))] ++ [(kq0 r78 kb 3 (fW 3 h78))]) ++ (WW 3 h78 l78 kw (fun _ => 0) (fun _ => 0) (fun _ _ => 0) ++ (T9_1))) (X := []) (R := [(kc5 (hO 0) .null (.ref (hQ 0)) (.int 0) (.int 0) (.int 0) (.int (-1)) (.ref q23) (.ref q31) (.ref q38) (.ref q46) (.ref q54) (.ref q62) (.ref r70) .null .null .null .null .null .null), (kr0 q23 kI 64), (kl0 q31 kw 24), (kl0 q38 kw 3), (kr0 q46 kI 8), (kr0 q54 kI 8), (kr0 q62 kI 12), (kq0 r70 kb 8 (fW 8 h70))] ++ (T9_1)) perm_nil p8 hP hD hk1 hFc hP1 hD1
  generalize H1 = H at hP hS ⊢
  clear p8 hPc hDc hKc hFc hP1 hD1 hk1 hz1 hw9
  obtain ⟨T9_2, eT9_2⟩ : ∃ t9 : va_W, t9 = WW 3 h78 l78 kw (fun _ => 0) (fun _ => 0) (fun _ _ => 0) ++ (T9_1) := ⟨_, rfl⟩
  have hP : va_P (dC, dI) vwCl ([(kc5 (hO 0) .null (.ref (hQ 0)) (.int 0) (.int 0) (.int 0) (.int (-1)) (.ref q23) (.ref q31) (.ref q38) (.ref q46) (.ref q54) (.ref q62) (.ref r70) .null .null .null .null .null .null), (kr0 q23 kI 64), (kl0 q31 kw 24), (kl0 q38 kw 3), (kr0 q46 kI 8), (kr0 q54 kI 8), (kr0 q62 kI 12), (kq0 r70 kb 8 (fW 8 h70)), (kq0 r78 kb 3 (fW 3 h78))] ++ (T9_2)) H := by rw [eT9_2]; exact hP
  have hD : va_D A ([(kc5 (hO 0) .null (.ref (hQ 0)) (.int 0) (.int 0) (.int 0) (.int (-1)) (.ref q23) (.ref q31) (.ref q38) (.ref q46) (.ref q54) (.ref q62) (.ref r70) .null .null .null .null .null .null), (kr0 q23 kI 64), (kl0 q31 kw 24), (kl0 q38 kw 3), (kr0 q46 kI 8), (kr0 q54 kI 8), (kr0 q62 kI 12), (kq0 r70 kb 8 (fW 8 h70)), (kq0 r78 kb 3 (fW 3 h78))] ++ (T9_2)) := by rw [eT9_2]; exact hD
  refine W.widen (k := 847) (n := 7754) (by omega) (by omega) ?_
  refine va_putF (D := (dC, dI)) (ci := 5) (v := .ref r78) (ty := .array (.object "OptimaWorks$Whole")) (C := RX5) (T := TX5) (N := 19) hx hb hts iwsKX5_init_in5 tyX5 tyX5_ok nmX5 hown hK hP hD hS 0 rfl rfl 13 (by decide) (hts (.fieldLink RX5 52 "OptimaWorks$Solver" "answerGoal" "[LOptimaWorks$Whole;") (by decide +kernel)) (fun _ h9 => h9) rfl hin rfl (by decide +kernel) rfl rfl (Nat.le_of_ble_eq_true rfl) dX5_init_81 (fun H locs hP hD hS => ?_)
  have hP : va_P (dC, dI) vwCl ([(kc5 (hO 0) .null (.ref (hQ 0)) (.int 0) (.int 0) (.int 0) (.int (-1)) (.ref q23) (.ref q31) (.ref q38) (.ref q46) (.ref q54) (.ref q62) (.ref r70) (.ref r78) .null .null .null .null .null), (kr0 q23 kI 64), (kl0 q31 kw 24), (kl0 q38 kw 3), (kr0 q46 kI 8), (kr0 q54 kI 8), (kr0 q62 kI 12), (kq0 r70 kb 8 (fW 8 h70)), (kq0 r78 kb 3 (fW 3 h78))] ++ (T9_2)) H := hP
  have hD := fz_sd hP (hD) rfl
  refine lv_aload_n hx hb dX5_init_84 rfl (lv_at hl 0 rfl) ?_
  refine va_new (ci := 8) (fs := [.null, .int 0, .int 0]) (C := RX8) (T := TX8) (N := 3) hx hb hts iwsKX5_init_in8 tyX8 tyX8_ok hown (hts _ hm_kl_X5_init_3) (hts _ hm_kl_X5_init_4) (hts _ hm_kl_X5_init_5) hK hP hD hS hA rfl (by decide +kernel) (by first | decide +kernel | (dsimp only [headSpec] <;> omega)) (by first | decide +kernel | (dsimp only [headSpec] <;> omega)) dX5_init_85 (fun q85 H hP hD hS => ?_)
  refine lv_dup hx hb dX5_init_88 rfl ?_
  have p9 : List.Perm (α := Nat × va_E) (([(kc5 (hO 0) .null (.ref (hQ 0)) (.int 0) (.int 0) (.int 0) (.int (-1)) (.ref q23) (.ref q31) (.ref q38) (.ref q46) (.ref q54) (.ref q62) (.ref r70) (.ref r78) .null .null .null .null .null), (kr0 q23 kI 64), (kl0 q31 kw 24), (kl0 q38 kw 3), (kr0 q46 kI 8), (kr0 q54 kI 8), (kr0 q62 kI 12), (kq0 r70 kb 8 (fW 8 h70)), (kq0 r78 kb 3 (fW 3 h78))] ++ (T9_2)) ++ [(q85, .inr (8, [.null, .int 0, .int 0]))]) ([(q85, .inr (8, [.null, .int 0, .int 0]))] ++ ([(kc5 (hO 0) .null (.ref (hQ 0)) (.int 0) (.int 0) (.int 0) (.int (-1)) (.ref q23) (.ref q31) (.ref q38) (.ref q46) (.ref q54) (.ref q62) (.ref r70) (.ref r78) .null .null .null .null .null), (kr0 q23 kI 64), (kl0 q31 kw 24), (kl0 q38 kw 3), (kr0 q46 kI 8), (kr0 q54 kI 8), (kr0 q62 kI 12), (kq0 r70 kb 8 (fW 8 h70)), (kq0 r78 kb 3 (fW 3 h78))] ++ (T9_2))) := List.perm_append_comm
  have hPc := hP.mem (fun q h => p9.mem_iff.mpr (List.mem_append_left _ h))
  have hDc := (hD.perm p9).left
  have hKc : va_K (dC, dI) vwCl ([]) _ := hK.sub [] rfl
  have hFc := freeG p9 hD hS hA
  refine va_callv (va_runIN (As := []) (rest := [.ref q85, .ref (hO 0)]) ⟨hx, hb, hml, hown, hts⟩ (p_X8_init l dC dI q85 H.size) ⟨va_cnB 0 hts gwsKX5_init_2 rfl rfl rfl (hE.2.2.1.2.2.2.2.1 (.methodLinkNest RX5 57 yX8_init RX11) (by decide +kernel)) (hts _ hm_kl_X5_init_5) (by decide +kernel) ⟨by first | decide +kernel | (dsimp only [headSpec] <;> omega), by first | decide +kernel | (dsimp only [headSpec] <;> omega)⟩, rfl, (hts _ hm_kl_X5_init_6)⟩ ⟨fun a U g mk q => by obtain ⟨q0, q1, qP, qK, qD⟩ := q; exact ⟨q0, q1, qP, va_K.moved (u := U) (U := U.calling g mk a) (Vm.Alike.refl U.vm) qK, qD⟩, fun U hU hW => ⟨rfl, by rw [hU], by rw [hU]; exact hPc, va_K.moved hW.alike hKc, hDc.weaken (fun _ _ _ _ => trivial)⟩⟩ rfl rfl hl.1 rfl (lv_room (Nat.le_of_ble_eq_true rfl)) dX5_init_89 ⟨by first | decide +kernel | (dsimp only [headSpec] <;> omega), by first | decide +kernel | (dsimp only [headSpec] <;> omega)⟩) hS (fun q _ h => hFc q h) hFc (fun u t H1 locs ht hvm hw hB hz1 hk1 hS => ?_)
  obtain ⟨y85, k9⟩ := u
  obtain ⟨hP1, hK1, hD1⟩ := hB
  dsimp only at hP1 hK1 hD1
  rw [ht] at hP1
  have hK1 := va_K.moved hvm.symm hK1
  obtain rfl : kw = k9 := (va_K.cl2 hK1 hK (i := 0) (j := 1) rfl rfl).symm
  clear hK1 hw
  have p8 : List.Perm (α := Nat × va_E) ([(kc5 (hO 0) .null (.ref (hQ 0)) (.int 0) (.int 0) (.int 0) (.int (-1)) (.ref q23) (.ref q31) (.ref q38) (.ref q46) (.ref q54) (.ref q62) (.ref r70) (.ref r78) .null .null .null .null .null), (kr0 q23 kI 64), (kl0 q31 kw 24), (kl0 q38 kw 3), (kr0 q46 kI 8), (kr0 q54 kI 8), (kr0 q62 kI 12), (kq0 r70 kb 8 (fW 8 h70)), (kq0 r78 kb 3 (fW 3 h78))] ++ ([(q85, .inr (8, [.ref y85, .int 0, .int 0])), (kl0 y85 kw 14)] ++ (T9_2))) ([(q85, .inr (8, [.ref y85, .int 0, .int 0])), (kl0 y85 kw 14)] ++ ([(kc5 (hO 0) .null (.ref (hQ 0)) (.int 0) (.int 0) (.int 0) (.int (-1)) (.ref q23) (.ref q31) (.ref q38) (.ref q46) (.ref q54) (.ref q62) (.ref r70) (.ref r78) .null .null .null .null .null), (kr0 q23 kI 64), (kl0 q31 kw 24), (kl0 q38 kw 3), (kr0 q46 kI 8), (kr0 q54 kI 8), (kr0 q62 kI 12), (kq0 r70 kb 8 (fW 8 h70)), (kq0 r78 kb 3 (fW 3 h78))] ++ (T9_2))) := List.perm_append_comm_assoc _ _ _
  obtain ⟨hP, hD⟩ := frameG p9 p8 hP hD hk1 hFc hP1 hD1
  generalize H1 = H at hP hS ⊢
  clear p9 p8 hPc hDc hKc hFc hP1 hD1 hk1 hz1
  obtain ⟨T9_3, eT9_3⟩ : ∃ t9 : va_W, t9 = WW 1 (fun _ => q85) (fun _ => y85) kw (fun _ => 0) (fun _ => 0) (fun _ _ => 0) ++ (T9_2) := ⟨_, rfl⟩
  have hP : va_P (dC, dI) vwCl ([(kc5 (hO 0) .null (.ref (hQ 0)) (.int 0) (.int 0) (.int 0) (.int (-1)) (.ref q23) (.ref q31) (.ref q38) (.ref q46) (.ref q54) (.ref q62) (.ref r70) (.ref r78) .null .null .null .null .null), (kr0 q23 kI 64), (kl0 q31 kw 24), (kl0 q38 kw 3), (kr0 q46 kI 8), (kr0 q54 kI 8), (kr0 q62 kI 12), (kq0 r70 kb 8 (fW 8 h70)), (kq0 r78 kb 3 (fW 3 h78))] ++ (T9_3)) H := by rw [eT9_3]; exact hP
  have hD : va_D A ([(kc5 (hO 0) .null (.ref (hQ 0)) (.int 0) (.int 0) (.int 0) (.int (-1)) (.ref q23) (.ref q31) (.ref q38) (.ref q46) (.ref q54) (.ref q62) (.ref r70) (.ref r78) .null .null .null .null .null), (kr0 q23 kI 64), (kl0 q31 kw 24), (kl0 q38 kw 3), (kr0 q46 kI 8), (kr0 q54 kI 8), (kr0 q62 kI 12), (kq0 r70 kb 8 (fW 8 h70)), (kq0 r78 kb 3 (fW 3 h78))] ++ (T9_3)) := by rw [eT9_3]; exact hD
  refine W.widen (k := 849) (n := 7771) (by omega) (by omega) ?_
  refine va_putF (D := (dC, dI)) (ci := 5) (v := .ref q85) (ty := .object "OptimaWorks$Whole") (C := RX5) (T := TX5) (N := 19) hx hb hts iwsKX5_init_in5 tyX5 tyX5_ok nmX5 hown hK hP hD hS 0 rfl rfl 14 (by decide) (hts (.fieldLink RX5 58 "OptimaWorks$Solver" "answerUnder" "LOptimaWorks$Whole;") (by decide +kernel)) (fun _ h9 => h9) rfl hin rfl (by decide +kernel) rfl rfl (Nat.le_of_ble_eq_true rfl) dX5_init_92 (fun H locs hP hD hS => ?_)
  have hP : va_P (dC, dI) vwCl ([(kc5 (hO 0) .null (.ref (hQ 0)) (.int 0) (.int 0) (.int 0) (.int (-1)) (.ref q23) (.ref q31) (.ref q38) (.ref q46) (.ref q54) (.ref q62) (.ref r70) (.ref r78) (.ref q85) .null .null .null .null), (kr0 q23 kI 64), (kl0 q31 kw 24), (kl0 q38 kw 3), (kr0 q46 kI 8), (kr0 q54 kI 8), (kr0 q62 kI 12), (kq0 r70 kb 8 (fW 8 h70)), (kq0 r78 kb 3 (fW 3 h78))] ++ (T9_3)) H := hP
  have hD := fz_sd hP (hD) rfl
  refine lv_aload_n hx hb dX5_init_95 rfl (lv_at hl 0 rfl) ?_
  refine lv_bipush (v := 8) hx hb dX5_init_96 (by decide) ?_
  have hFc := noneFree hS hA
  have hPc := (nilP : va_P (dC, dI) vwCl [] H)
  have hDc := (nilD : va_D A [])
  have hKc : va_K (dC, dI) vwCl ([(kb, .object "OptimaWorks$Whole"), (kw, .long)]) _ := hK.sub [0, 1] rfl
  refine va_callr (va_runS (As := [.int 8]) (rest := [.ref (hO 0)]) ⟨hx, hb, hml, hown, hts⟩ (k_X5_wholes l dC dI kb kw 8 8 (by decide) (by decide) H.size) (va_cwS 1 hts gwsKX5_init_1 rfl rfl rfl (by decide +kernel) ⟨by first | decide +kernel | (dsimp only [headSpec] <;> omega), by first | decide +kernel | (dsimp only [headSpec] <;> omega)⟩) ⟨fun a U g mk q => by obtain ⟨q0, q1, qP, qK, qD, qE⟩ := q; exact ⟨q0, q1, qP, va_K.moved (u := U) (U := U.calling g mk a) (Vm.Alike.refl U.vm) qK, qD, qE.call⟩, fun U hU hW => ⟨rfl, by rw [hU], by rw [hU]; exact hPc, va_K.moved hW.alike hKc, hDc.weaken (fun _ _ _ _ => trivial), by rw [hU]; exact (((hE : CE A s s.heap).kept hS.2.1).narrow (fun q h => hFc q h)).warm hW⟩⟩ rfl rfl hl.1 rfl (lv_room (Nat.le_of_ble_eq_true rfl)) dX5_init_98 ⟨by first | decide +kernel | (dsimp only [headSpec] <;> omega), by first | decide +kernel | (dsimp only [headSpec] <;> omega)⟩) hS (fun q _ h => hFc q h) hFc (fun u r98 t H1 locs ht hvm hw9 hB hz1 hk1 hS => ?_)
  obtain ⟨h98, l98⟩ := u
  obtain ⟨hP1, hD1⟩ := hB
  dsimp only at hP1 hD1
  rw [ht] at hP1
  have p8 : List.Perm (α := Nat × va_E) (([(kc5 (hO 0) .null (.ref (hQ 0)) (.int 0) (.int 0) (.int 0) (.int (-1)) (.ref q23) (.ref q31) (.ref q38) (.ref q46) (.ref q54) (.ref q62) (.ref r70) (.ref r78) (.ref q85) .null .null .null .null), (kr0 q23 kI 64), (kl0 q31 kw 24), (kl0 q38 kw 3), (kr0 q46 kI 8), (kr0 q54 kI 8), (kr0 q62 kI 12), (kq0 r70 kb 8 (fW 8 h70)), (kq0 r78 kb 3 (fW 3 h78))] ++ [(kq0 r98 kb 8 (fW 8 h98))]) ++ (WW 8 h98 l98 kw (fun _ => 0) (fun _ => 0) (fun _ _ => 0) ++ (T9_3))) (([(kq0 r98 kb 8 (fW 8 h98))] ++ WW 8 h98 l98 kw (fun _ => 0) (fun _ => 0) (fun _ _ => 0)) ++ ([(kc5 (hO 0) .null (.ref (hQ 0)) (.int 0) (.int 0) (.int 0) (.int (-1)) (.ref q23) (.ref q31) (.ref q38) (.ref q46) (.ref q54) (.ref q62) (.ref r70) (.ref r78) (.ref q85) .null .null .null .null), (kr0 q23 kI 64), (kl0 q31 kw 24), (kl0 q38 kw 3), (kr0 q46 kI 8), (kr0 q54 kI 8), (kr0 q62 kI 12), (kq0 r70 kb 8 (fW 8 h70)), (kq0 r78 kb 3 (fW 3 h78))] ++ (T9_3))) := perm_in
  obtain ⟨hP, hD⟩ := frameG (ws := [(kc5 (hO 0) .null (.ref (hQ 0)) (.int 0) (.int 0) (.int 0) (.int (-1)) (.ref q23) (.ref q31) (.ref q38) (.ref q46) (.ref q54) (.ref q62) (.ref r70) (.ref r78) (.ref q85) .null .null .null .null), (kr0 q23 kI 64), (kl0 q31 kw 24), (kl0 q38 kw 3), (kr0 q46 kI 8), (kr0 q54 kI 8), (kr0 q62 kI 12), (kq0 r70 kb 8 (fW 8 h70)), (kq0 r78 kb 3 (fW 3 h78))] ++ (T9_3)) (ws' := ([(kc5 (hO 0) .null (.ref (hQ 0)) (.int 0) (.int 0) (.int 0) (.int (-1)) (.ref q23) (.ref q31) (.ref q38) (.ref q46) (.ref q54) (.ref q62) (.ref r70) (.ref r78) (.ref q85) .null .null .null .null), (kr0 q23 kI 64), (kl0 q31 kw 24), (kl0 q38 kw 3), (kr0 q46 kI 8), (kr0 q54 kI 8), (kr0 q62 kI 12), (kq0 r70 kb 8 (fW 8 h70)), (kq0 r78 kb 3 (fW 3 h78))] ++ [(kq0 r98 kb 8 (fW 8 h98))]) ++ (WW 8 h98 l98 kw (fun _ => 0) (fun _ => 0) (fun _ _ => 0) ++ (T9_3))) (X := []) (R := [(kc5 (hO 0) .null (.ref (hQ 0)) (.int 0) (.int 0) (.int 0) (.int (-1)) (.ref q23) (.ref q31) (.ref q38) (.ref q46) (.ref q54) (.ref q62) (.ref r70) (.ref r78) (.ref q85) .null .null .null .null), (kr0 q23 kI 64), (kl0 q31 kw 24), (kl0 q38 kw 3), (kr0 q46 kI 8), (kr0 q54 kI 8), (kr0 q62 kI 12), (kq0 r70 kb 8 (fW 8 h70)), (kq0 r78 kb 3 (fW 3 h78))] ++ (T9_3)) perm_nil p8 hP hD hk1 hFc hP1 hD1
  generalize H1 = H at hP hS ⊢
  clear p8 hPc hDc hKc hFc hP1 hD1 hk1 hz1 hw9
  obtain ⟨T9_4, eT9_4⟩ : ∃ t9 : va_W, t9 = WW 8 h98 l98 kw (fun _ => 0) (fun _ => 0) (fun _ _ => 0) ++ (T9_3) := ⟨_, rfl⟩
  have hP : va_P (dC, dI) vwCl ([(kc5 (hO 0) .null (.ref (hQ 0)) (.int 0) (.int 0) (.int 0) (.int (-1)) (.ref q23) (.ref q31) (.ref q38) (.ref q46) (.ref q54) (.ref q62) (.ref r70) (.ref r78) (.ref q85) .null .null .null .null), (kr0 q23 kI 64), (kl0 q31 kw 24), (kl0 q38 kw 3), (kr0 q46 kI 8), (kr0 q54 kI 8), (kr0 q62 kI 12), (kq0 r70 kb 8 (fW 8 h70)), (kq0 r78 kb 3 (fW 3 h78)), (kq0 r98 kb 8 (fW 8 h98))] ++ (T9_4)) H := by rw [eT9_4]; exact hP
  have hD : va_D A ([(kc5 (hO 0) .null (.ref (hQ 0)) (.int 0) (.int 0) (.int 0) (.int (-1)) (.ref q23) (.ref q31) (.ref q38) (.ref q46) (.ref q54) (.ref q62) (.ref r70) (.ref r78) (.ref q85) .null .null .null .null), (kr0 q23 kI 64), (kl0 q31 kw 24), (kl0 q38 kw 3), (kr0 q46 kI 8), (kr0 q54 kI 8), (kr0 q62 kI 12), (kq0 r70 kb 8 (fW 8 h70)), (kq0 r78 kb 3 (fW 3 h78)), (kq0 r98 kb 8 (fW 8 h98))] ++ (T9_4)) := by rw [eT9_4]; exact hD
  refine W.widen (k := 866) (n := 7915) (by omega) (by omega) ?_
  refine va_putF (D := (dC, dI)) (ci := 5) (v := .ref r98) (ty := .array (.object "OptimaWorks$Whole")) (C := RX5) (T := TX5) (N := 19) hx hb hts iwsKX5_init_in5 tyX5 tyX5_ok nmX5 hown hK hP hD hS 0 rfl rfl 15 (by decide) (hts (.fieldLink RX5 62 "OptimaWorks$Solver" "trial" "[LOptimaWorks$Whole;") (by decide +kernel)) (fun _ h9 => h9) rfl hin rfl (by decide +kernel) rfl rfl (Nat.le_of_ble_eq_true rfl) dX5_init_101 (fun H locs hP hD hS => ?_)
  have hP : va_P (dC, dI) vwCl ([(kc5 (hO 0) .null (.ref (hQ 0)) (.int 0) (.int 0) (.int 0) (.int (-1)) (.ref q23) (.ref q31) (.ref q38) (.ref q46) (.ref q54) (.ref q62) (.ref r70) (.ref r78) (.ref q85) (.ref r98) .null .null .null), (kr0 q23 kI 64), (kl0 q31 kw 24), (kl0 q38 kw 3), (kr0 q46 kI 8), (kr0 q54 kI 8), (kr0 q62 kI 12), (kq0 r70 kb 8 (fW 8 h70)), (kq0 r78 kb 3 (fW 3 h78)), (kq0 r98 kb 8 (fW 8 h98))] ++ (T9_4)) H := hP
  have hD := fz_sd hP (hD) rfl
  refine lv_aload_n hx hb dX5_init_104 rfl (lv_at hl 0 rfl) ?_
  refine va_new (ci := 8) (fs := [.null, .int 0, .int 0]) (C := RX8) (T := TX8) (N := 3) hx hb hts iwsKX5_init_in8 tyX8 tyX8_ok hown (hts _ hm_kl_X5_init_3) (hts _ hm_kl_X5_init_4) (hts _ hm_kl_X5_init_5) hK hP hD hS hA rfl (by decide +kernel) (by first | decide +kernel | (dsimp only [headSpec] <;> omega)) (by first | decide +kernel | (dsimp only [headSpec] <;> omega)) dX5_init_105 (fun q105 H hP hD hS => ?_)
  refine lv_dup hx hb dX5_init_108 rfl ?_
  have p9 : List.Perm (α := Nat × va_E) (([(kc5 (hO 0) .null (.ref (hQ 0)) (.int 0) (.int 0) (.int 0) (.int (-1)) (.ref q23) (.ref q31) (.ref q38) (.ref q46) (.ref q54) (.ref q62) (.ref r70) (.ref r78) (.ref q85) (.ref r98) .null .null .null), (kr0 q23 kI 64), (kl0 q31 kw 24), (kl0 q38 kw 3), (kr0 q46 kI 8), (kr0 q54 kI 8), (kr0 q62 kI 12), (kq0 r70 kb 8 (fW 8 h70)), (kq0 r78 kb 3 (fW 3 h78)), (kq0 r98 kb 8 (fW 8 h98))] ++ (T9_4)) ++ [(q105, .inr (8, [.null, .int 0, .int 0]))]) ([(q105, .inr (8, [.null, .int 0, .int 0]))] ++ ([(kc5 (hO 0) .null (.ref (hQ 0)) (.int 0) (.int 0) (.int 0) (.int (-1)) (.ref q23) (.ref q31) (.ref q38) (.ref q46) (.ref q54) (.ref q62) (.ref r70) (.ref r78) (.ref q85) (.ref r98) .null .null .null), (kr0 q23 kI 64), (kl0 q31 kw 24), (kl0 q38 kw 3), (kr0 q46 kI 8), (kr0 q54 kI 8), (kr0 q62 kI 12), (kq0 r70 kb 8 (fW 8 h70)), (kq0 r78 kb 3 (fW 3 h78)), (kq0 r98 kb 8 (fW 8 h98))] ++ (T9_4))) := List.perm_append_comm
  have hPc := hP.mem (fun q h => p9.mem_iff.mpr (List.mem_append_left _ h))
  have hDc := (hD.perm p9).left
  have hKc : va_K (dC, dI) vwCl ([]) _ := hK.sub [] rfl
  have hFc := freeG p9 hD hS hA
  refine va_callv (va_runIN (As := []) (rest := [.ref q105, .ref (hO 0)]) ⟨hx, hb, hml, hown, hts⟩ (p_X8_init l dC dI q105 H.size) ⟨va_cnB 0 hts gwsKX5_init_2 rfl rfl rfl (hE.2.2.1.2.2.2.2.1 (.methodLinkNest RX5 57 yX8_init RX11) (by decide +kernel)) (hts _ hm_kl_X5_init_5) (by decide +kernel) ⟨by first | decide +kernel | (dsimp only [headSpec] <;> omega), by first | decide +kernel | (dsimp only [headSpec] <;> omega)⟩, rfl, (hts _ hm_kl_X5_init_6)⟩ ⟨fun a U g mk q => by obtain ⟨q0, q1, qP, qK, qD⟩ := q; exact ⟨q0, q1, qP, va_K.moved (u := U) (U := U.calling g mk a) (Vm.Alike.refl U.vm) qK, qD⟩, fun U hU hW => ⟨rfl, by rw [hU], by rw [hU]; exact hPc, va_K.moved hW.alike hKc, hDc.weaken (fun _ _ _ _ => trivial)⟩⟩ rfl rfl hl.1 rfl (lv_room (Nat.le_of_ble_eq_true rfl)) dX5_init_109 ⟨by first | decide +kernel | (dsimp only [headSpec] <;> omega), by first | decide +kernel | (dsimp only [headSpec] <;> omega)⟩) hS (fun q _ h => hFc q h) hFc (fun u t H1 locs ht hvm hw hB hz1 hk1 hS => ?_)
  obtain ⟨y105, k9⟩ := u
  obtain ⟨hP1, hK1, hD1⟩ := hB
  dsimp only at hP1 hK1 hD1
  rw [ht] at hP1
  have hK1 := va_K.moved hvm.symm hK1
  obtain rfl : kw = k9 := (va_K.cl2 hK1 hK (i := 0) (j := 1) rfl rfl).symm
  clear hK1 hw
  have p8 : List.Perm (α := Nat × va_E) ([(kc5 (hO 0) .null (.ref (hQ 0)) (.int 0) (.int 0) (.int 0) (.int (-1)) (.ref q23) (.ref q31) (.ref q38) (.ref q46) (.ref q54) (.ref q62) (.ref r70) (.ref r78) (.ref q85) (.ref r98) .null .null .null), (kr0 q23 kI 64), (kl0 q31 kw 24), (kl0 q38 kw 3), (kr0 q46 kI 8), (kr0 q54 kI 8), (kr0 q62 kI 12), (kq0 r70 kb 8 (fW 8 h70)), (kq0 r78 kb 3 (fW 3 h78)), (kq0 r98 kb 8 (fW 8 h98))] ++ ([(q105, .inr (8, [.ref y105, .int 0, .int 0])), (kl0 y105 kw 14)] ++ (T9_4))) ([(q105, .inr (8, [.ref y105, .int 0, .int 0])), (kl0 y105 kw 14)] ++ ([(kc5 (hO 0) .null (.ref (hQ 0)) (.int 0) (.int 0) (.int 0) (.int (-1)) (.ref q23) (.ref q31) (.ref q38) (.ref q46) (.ref q54) (.ref q62) (.ref r70) (.ref r78) (.ref q85) (.ref r98) .null .null .null), (kr0 q23 kI 64), (kl0 q31 kw 24), (kl0 q38 kw 3), (kr0 q46 kI 8), (kr0 q54 kI 8), (kr0 q62 kI 12), (kq0 r70 kb 8 (fW 8 h70)), (kq0 r78 kb 3 (fW 3 h78)), (kq0 r98 kb 8 (fW 8 h98))] ++ (T9_4))) := List.perm_append_comm_assoc _ _ _
  obtain ⟨hP, hD⟩ := frameG p9 p8 hP hD hk1 hFc hP1 hD1
  generalize H1 = H at hP hS ⊢
  clear p9 p8 hPc hDc hKc hFc hP1 hD1 hk1 hz1
  obtain ⟨T9_5, eT9_5⟩ : ∃ t9 : va_W, t9 = WW 1 (fun _ => q105) (fun _ => y105) kw (fun _ => 0) (fun _ => 0) (fun _ _ => 0) ++ (T9_4) := ⟨_, rfl⟩
  have hP : va_P (dC, dI) vwCl ([(kc5 (hO 0) .null (.ref (hQ 0)) (.int 0) (.int 0) (.int 0) (.int (-1)) (.ref q23) (.ref q31) (.ref q38) (.ref q46) (.ref q54) (.ref q62) (.ref r70) (.ref r78) (.ref q85) (.ref r98) .null .null .null), (kr0 q23 kI 64), (kl0 q31 kw 24), (kl0 q38 kw 3), (kr0 q46 kI 8), (kr0 q54 kI 8), (kr0 q62 kI 12), (kq0 r70 kb 8 (fW 8 h70)), (kq0 r78 kb 3 (fW 3 h78)), (kq0 r98 kb 8 (fW 8 h98))] ++ (T9_5)) H := by rw [eT9_5]; exact hP
  have hD : va_D A ([(kc5 (hO 0) .null (.ref (hQ 0)) (.int 0) (.int 0) (.int 0) (.int (-1)) (.ref q23) (.ref q31) (.ref q38) (.ref q46) (.ref q54) (.ref q62) (.ref r70) (.ref r78) (.ref q85) (.ref r98) .null .null .null), (kr0 q23 kI 64), (kl0 q31 kw 24), (kl0 q38 kw 3), (kr0 q46 kI 8), (kr0 q54 kI 8), (kr0 q62 kI 12), (kq0 r70 kb 8 (fW 8 h70)), (kq0 r78 kb 3 (fW 3 h78)), (kq0 r98 kb 8 (fW 8 h98))] ++ (T9_5)) := by rw [eT9_5]; exact hD
  refine W.widen (k := 868) (n := 7932) (by omega) (by omega) ?_
  refine va_putF (D := (dC, dI)) (ci := 5) (v := .ref q105) (ty := .object "OptimaWorks$Whole") (C := RX5) (T := TX5) (N := 19) hx hb hts iwsKX5_init_in5 tyX5 tyX5_ok nmX5 hown hK hP hD hS 0 rfl rfl 16 (by decide) (hts (.fieldLink RX5 65 "OptimaWorks$Solver" "top" "LOptimaWorks$Whole;") (by decide +kernel)) (fun _ h9 => h9) rfl hin rfl (by decide +kernel) rfl rfl (Nat.le_of_ble_eq_true rfl) dX5_init_112 (fun H locs hP hD hS => ?_)
  have hP : va_P (dC, dI) vwCl ([(kc5 (hO 0) .null (.ref (hQ 0)) (.int 0) (.int 0) (.int 0) (.int (-1)) (.ref q23) (.ref q31) (.ref q38) (.ref q46) (.ref q54) (.ref q62) (.ref r70) (.ref r78) (.ref q85) (.ref r98) (.ref q105) .null .null), (kr0 q23 kI 64), (kl0 q31 kw 24), (kl0 q38 kw 3), (kr0 q46 kI 8), (kr0 q54 kI 8), (kr0 q62 kI 12), (kq0 r70 kb 8 (fW 8 h70)), (kq0 r78 kb 3 (fW 3 h78)), (kq0 r98 kb 8 (fW 8 h98))] ++ (T9_5)) H := hP
  have hD := fz_sd hP (hD) rfl
  refine lv_aload_n hx hb dX5_init_115 rfl (lv_at hl 0 rfl) ?_
  refine va_new (ci := 8) (fs := [.null, .int 0, .int 0]) (C := RX8) (T := TX8) (N := 3) hx hb hts iwsKX5_init_in8 tyX8 tyX8_ok hown (hts _ hm_kl_X5_init_3) (hts _ hm_kl_X5_init_4) (hts _ hm_kl_X5_init_5) hK hP hD hS hA rfl (by decide +kernel) (by first | decide +kernel | (dsimp only [headSpec] <;> omega)) (by first | decide +kernel | (dsimp only [headSpec] <;> omega)) dX5_init_116 (fun q116 H hP hD hS => ?_)
  refine lv_dup hx hb dX5_init_119 rfl ?_
  have p9 : List.Perm (α := Nat × va_E) (([(kc5 (hO 0) .null (.ref (hQ 0)) (.int 0) (.int 0) (.int 0) (.int (-1)) (.ref q23) (.ref q31) (.ref q38) (.ref q46) (.ref q54) (.ref q62) (.ref r70) (.ref r78) (.ref q85) (.ref r98) (.ref q105) .null .null), (kr0 q23 kI 64), (kl0 q31 kw 24), (kl0 q38 kw 3), (kr0 q46 kI 8), (kr0 q54 kI 8), (kr0 q62 kI 12), (kq0 r70 kb 8 (fW 8 h70)), (kq0 r78 kb 3 (fW 3 h78)), (kq0 r98 kb 8 (fW 8 h98))] ++ (T9_5)) ++ [(q116, .inr (8, [.null, .int 0, .int 0]))]) ([(q116, .inr (8, [.null, .int 0, .int 0]))] ++ ([(kc5 (hO 0) .null (.ref (hQ 0)) (.int 0) (.int 0) (.int 0) (.int (-1)) (.ref q23) (.ref q31) (.ref q38) (.ref q46) (.ref q54) (.ref q62) (.ref r70) (.ref r78) (.ref q85) (.ref r98) (.ref q105) .null .null), (kr0 q23 kI 64), (kl0 q31 kw 24), (kl0 q38 kw 3), (kr0 q46 kI 8), (kr0 q54 kI 8), (kr0 q62 kI 12), (kq0 r70 kb 8 (fW 8 h70)), (kq0 r78 kb 3 (fW 3 h78)), (kq0 r98 kb 8 (fW 8 h98))] ++ (T9_5))) := List.perm_append_comm
  have hPc := hP.mem (fun q h => p9.mem_iff.mpr (List.mem_append_left _ h))
  have hDc := (hD.perm p9).left
  have hKc : va_K (dC, dI) vwCl ([]) _ := hK.sub [] rfl
  have hFc := freeG p9 hD hS hA
  refine va_callv (va_runIN (As := []) (rest := [.ref q116, .ref (hO 0)]) ⟨hx, hb, hml, hown, hts⟩ (p_X8_init l dC dI q116 H.size) ⟨va_cnB 0 hts gwsKX5_init_2 rfl rfl rfl (hE.2.2.1.2.2.2.2.1 (.methodLinkNest RX5 57 yX8_init RX11) (by decide +kernel)) (hts _ hm_kl_X5_init_5) (by decide +kernel) ⟨by first | decide +kernel | (dsimp only [headSpec] <;> omega), by first | decide +kernel | (dsimp only [headSpec] <;> omega)⟩, rfl, (hts _ hm_kl_X5_init_6)⟩ ⟨fun a U g mk q => by obtain ⟨q0, q1, qP, qK, qD⟩ := q; exact ⟨q0, q1, qP, va_K.moved (u := U) (U := U.calling g mk a) (Vm.Alike.refl U.vm) qK, qD⟩, fun U hU hW => ⟨rfl, by rw [hU], by rw [hU]; exact hPc, va_K.moved hW.alike hKc, hDc.weaken (fun _ _ _ _ => trivial)⟩⟩ rfl rfl hl.1 rfl (lv_room (Nat.le_of_ble_eq_true rfl)) dX5_init_120 ⟨by first | decide +kernel | (dsimp only [headSpec] <;> omega), by first | decide +kernel | (dsimp only [headSpec] <;> omega)⟩) hS (fun q _ h => hFc q h) hFc (fun u t H1 locs ht hvm hw hB hz1 hk1 hS => ?_)
  obtain ⟨y116, k9⟩ := u
  obtain ⟨hP1, hK1, hD1⟩ := hB
  dsimp only at hP1 hK1 hD1
  rw [ht] at hP1
  have hK1 := va_K.moved hvm.symm hK1
  obtain rfl : kw = k9 := (va_K.cl2 hK1 hK (i := 0) (j := 1) rfl rfl).symm
  clear hK1 hw
  have p8 : List.Perm (α := Nat × va_E) ([(kc5 (hO 0) .null (.ref (hQ 0)) (.int 0) (.int 0) (.int 0) (.int (-1)) (.ref q23) (.ref q31) (.ref q38) (.ref q46) (.ref q54) (.ref q62) (.ref r70) (.ref r78) (.ref q85) (.ref r98) (.ref q105) .null .null), (kr0 q23 kI 64), (kl0 q31 kw 24), (kl0 q38 kw 3), (kr0 q46 kI 8), (kr0 q54 kI 8), (kr0 q62 kI 12), (kq0 r70 kb 8 (fW 8 h70)), (kq0 r78 kb 3 (fW 3 h78)), (kq0 r98 kb 8 (fW 8 h98))] ++ ([(q116, .inr (8, [.ref y116, .int 0, .int 0])), (kl0 y116 kw 14)] ++ (T9_5))) ([(q116, .inr (8, [.ref y116, .int 0, .int 0])), (kl0 y116 kw 14)] ++ ([(kc5 (hO 0) .null (.ref (hQ 0)) (.int 0) (.int 0) (.int 0) (.int (-1)) (.ref q23) (.ref q31) (.ref q38) (.ref q46) (.ref q54) (.ref q62) (.ref r70) (.ref r78) (.ref q85) (.ref r98) (.ref q105) .null .null), (kr0 q23 kI 64), (kl0 q31 kw 24), (kl0 q38 kw 3), (kr0 q46 kI 8), (kr0 q54 kI 8), (kr0 q62 kI 12), (kq0 r70 kb 8 (fW 8 h70)), (kq0 r78 kb 3 (fW 3 h78)), (kq0 r98 kb 8 (fW 8 h98))] ++ (T9_5))) := List.perm_append_comm_assoc _ _ _
  obtain ⟨hP, hD⟩ := frameG p9 p8 hP hD hk1 hFc hP1 hD1
  generalize H1 = H at hP hS ⊢
  clear p9 p8 hPc hDc hKc hFc hP1 hD1 hk1 hz1
  obtain ⟨T9_6, eT9_6⟩ : ∃ t9 : va_W, t9 = WW 1 (fun _ => q116) (fun _ => y116) kw (fun _ => 0) (fun _ => 0) (fun _ _ => 0) ++ (T9_5) := ⟨_, rfl⟩
  have hP : va_P (dC, dI) vwCl ([(kc5 (hO 0) .null (.ref (hQ 0)) (.int 0) (.int 0) (.int 0) (.int (-1)) (.ref q23) (.ref q31) (.ref q38) (.ref q46) (.ref q54) (.ref q62) (.ref r70) (.ref r78) (.ref q85) (.ref r98) (.ref q105) .null .null), (kr0 q23 kI 64), (kl0 q31 kw 24), (kl0 q38 kw 3), (kr0 q46 kI 8), (kr0 q54 kI 8), (kr0 q62 kI 12), (kq0 r70 kb 8 (fW 8 h70)), (kq0 r78 kb 3 (fW 3 h78)), (kq0 r98 kb 8 (fW 8 h98))] ++ (T9_6)) H := by rw [eT9_6]; exact hP
  have hD : va_D A ([(kc5 (hO 0) .null (.ref (hQ 0)) (.int 0) (.int 0) (.int 0) (.int (-1)) (.ref q23) (.ref q31) (.ref q38) (.ref q46) (.ref q54) (.ref q62) (.ref r70) (.ref r78) (.ref q85) (.ref r98) (.ref q105) .null .null), (kr0 q23 kI 64), (kl0 q31 kw 24), (kl0 q38 kw 3), (kr0 q46 kI 8), (kr0 q54 kI 8), (kr0 q62 kI 12), (kq0 r70 kb 8 (fW 8 h70)), (kq0 r78 kb 3 (fW 3 h78)), (kq0 r98 kb 8 (fW 8 h98))] ++ (T9_6)) := by rw [eT9_6]; exact hD
  refine W.widen (k := 870) (n := 7949) (by omega) (by omega) ?_
  refine va_putF (D := (dC, dI)) (ci := 5) (v := .ref q116) (ty := .object "OptimaWorks$Whole") (C := RX5) (T := TX5) (N := 19) hx hb hts iwsKX5_init_in5 tyX5 tyX5_ok nmX5 hown hK hP hD hS 0 rfl rfl 17 (by decide) (hts (.fieldLink RX5 68 "OptimaWorks$Solver" "bottom" "LOptimaWorks$Whole;") (by decide +kernel)) (fun _ h9 => h9) rfl hin rfl (by decide +kernel) rfl rfl (Nat.le_of_ble_eq_true rfl) dX5_init_123 (fun H locs hP hD hS => ?_)
  have hP : va_P (dC, dI) vwCl ([(kc5 (hO 0) .null (.ref (hQ 0)) (.int 0) (.int 0) (.int 0) (.int (-1)) (.ref q23) (.ref q31) (.ref q38) (.ref q46) (.ref q54) (.ref q62) (.ref r70) (.ref r78) (.ref q85) (.ref r98) (.ref q105) (.ref q116) .null), (kr0 q23 kI 64), (kl0 q31 kw 24), (kl0 q38 kw 3), (kr0 q46 kI 8), (kr0 q54 kI 8), (kr0 q62 kI 12), (kq0 r70 kb 8 (fW 8 h70)), (kq0 r78 kb 3 (fW 3 h78)), (kq0 r98 kb 8 (fW 8 h98))] ++ (T9_6)) H := hP
  have hD := fz_sd hP (hD) rfl
  refine lv_aload_n hx hb dX5_init_126 rfl (lv_at hl 0 rfl) ?_
  refine lv_iconst (v := 4) hx hb dX5_init_127 (by decide) ?_
  have hFc := noneFree hS hA
  have hPc := (nilP : va_P (dC, dI) vwCl [] H)
  have hDc := (nilD : va_D A [])
  have hKc : va_K (dC, dI) vwCl ([(kb, .object "OptimaWorks$Whole"), (kw, .long)]) _ := hK.sub [0, 1] rfl
  refine va_callr (va_runS (As := [.int 4]) (rest := [.ref (hO 0)]) ⟨hx, hb, hml, hown, hts⟩ (k_X5_wholes l dC dI kb kw 4 4 (by decide) (by decide) H.size) (va_cwS 1 hts gwsKX5_init_1 rfl rfl rfl (by decide +kernel) ⟨by first | decide +kernel | (dsimp only [headSpec] <;> omega), by first | decide +kernel | (dsimp only [headSpec] <;> omega)⟩) ⟨fun a U g mk q => by obtain ⟨q0, q1, qP, qK, qD, qE⟩ := q; exact ⟨q0, q1, qP, va_K.moved (u := U) (U := U.calling g mk a) (Vm.Alike.refl U.vm) qK, qD, qE.call⟩, fun U hU hW => ⟨rfl, by rw [hU], by rw [hU]; exact hPc, va_K.moved hW.alike hKc, hDc.weaken (fun _ _ _ _ => trivial), by rw [hU]; exact (((hE : CE A s s.heap).kept hS.2.1).narrow (fun q h => hFc q h)).warm hW⟩⟩ rfl rfl hl.1 rfl (lv_room (Nat.le_of_ble_eq_true rfl)) dX5_init_128 ⟨by first | decide +kernel | (dsimp only [headSpec] <;> omega), by first | decide +kernel | (dsimp only [headSpec] <;> omega)⟩) hS (fun q _ h => hFc q h) hFc (fun u r128 t H1 locs ht hvm hw9 hB hz1 hk1 hS => ?_)
  obtain ⟨h128, l128⟩ := u
  obtain ⟨hP1, hD1⟩ := hB
  dsimp only at hP1 hD1
  rw [ht] at hP1
  have p8 : List.Perm (α := Nat × va_E) (([(kc5 (hO 0) .null (.ref (hQ 0)) (.int 0) (.int 0) (.int 0) (.int (-1)) (.ref q23) (.ref q31) (.ref q38) (.ref q46) (.ref q54) (.ref q62) (.ref r70) (.ref r78) (.ref q85) (.ref r98) (.ref q105) (.ref q116) .null), (kr0 q23 kI 64), (kl0 q31 kw 24), (kl0 q38 kw 3), (kr0 q46 kI 8), (kr0 q54 kI 8), (kr0 q62 kI 12), (kq0 r70 kb 8 (fW 8 h70)), (kq0 r78 kb 3 (fW 3 h78)), (kq0 r98 kb 8 (fW 8 h98))] ++ [(kq0 r128 kb 4 (fW 4 h128))]) ++ (WW 4 h128 l128 kw (fun _ => 0) (fun _ => 0) (fun _ _ => 0) ++ (T9_6))) (([(kq0 r128 kb 4 (fW 4 h128))] ++ WW 4 h128 l128 kw (fun _ => 0) (fun _ => 0) (fun _ _ => 0)) ++ ([(kc5 (hO 0) .null (.ref (hQ 0)) (.int 0) (.int 0) (.int 0) (.int (-1)) (.ref q23) (.ref q31) (.ref q38) (.ref q46) (.ref q54) (.ref q62) (.ref r70) (.ref r78) (.ref q85) (.ref r98) (.ref q105) (.ref q116) .null), (kr0 q23 kI 64), (kl0 q31 kw 24), (kl0 q38 kw 3), (kr0 q46 kI 8), (kr0 q54 kI 8), (kr0 q62 kI 12), (kq0 r70 kb 8 (fW 8 h70)), (kq0 r78 kb 3 (fW 3 h78)), (kq0 r98 kb 8 (fW 8 h98))] ++ (T9_6))) := perm_in
  obtain ⟨hP, hD⟩ := frameG (ws := [(kc5 (hO 0) .null (.ref (hQ 0)) (.int 0) (.int 0) (.int 0) (.int (-1)) (.ref q23) (.ref q31) (.ref q38) (.ref q46) (.ref q54) (.ref q62) (.ref r70) (.ref r78) (.ref q85) (.ref r98) (.ref q105) (.ref q116) .null), (kr0 q23 kI 64), (kl0 q31 kw 24), (kl0 q38 kw 3), (kr0 q46 kI 8), (kr0 q54 kI 8), (kr0 q62 kI 12), (kq0 r70 kb 8 (fW 8 h70)), (kq0 r78 kb 3 (fW 3 h78)), (kq0 r98 kb 8 (fW 8 h98))] ++ (T9_6)) (ws' := ([(kc5 (hO 0) .null (.ref (hQ 0)) (.int 0) (.int 0) (.int 0) (.int (-1)) (.ref q23) (.ref q31) (.ref q38) (.ref q46) (.ref q54) (.ref q62) (.ref r70) (.ref r78) (.ref q85) (.ref r98) (.ref q105) (.ref q116) .null), (kr0 q23 kI 64), (kl0 q31 kw 24), (kl0 q38 kw 3), (kr0 q46 kI 8), (kr0 q54 kI 8), (kr0 q62 kI 12), (kq0 r70 kb 8 (fW 8 h70)), (kq0 r78 kb 3 (fW 3 h78)), (kq0 r98 kb 8 (fW 8 h98))] ++ [(kq0 r128 kb 4 (fW 4 h128))]) ++ (WW 4 h128 l128 kw (fun _ => 0) (fun _ => 0) (fun _ _ => 0) ++ (T9_6))) (X := []) (R := [(kc5 (hO 0) .null (.ref (hQ 0)) (.int 0) (.int 0) (.int 0) (.int (-1)) (.ref q23) (.ref q31) (.ref q38) (.ref q46) (.ref q54) (.ref q62) (.ref r70) (.ref r78) (.ref q85) (.ref r98) (.ref q105) (.ref q116) .null), (kr0 q23 kI 64), (kl0 q31 kw 24), (kl0 q38 kw 3), (kr0 q46 kI 8), (kr0 q54 kI 8), (kr0 q62 kI 12), (kq0 r70 kb 8 (fW 8 h70)), (kq0 r78 kb 3 (fW 3 h78)), (kq0 r98 kb 8 (fW 8 h98))] ++ (T9_6)) perm_nil p8 hP hD hk1 hFc hP1 hD1
  generalize H1 = H at hP hS ⊢
  clear p8 hPc hDc hKc hFc hP1 hD1 hk1 hz1 hw9
  obtain ⟨T9_7, eT9_7⟩ : ∃ t9 : va_W, t9 = WW 4 h128 l128 kw (fun _ => 0) (fun _ => 0) (fun _ _ => 0) ++ (T9_6) := ⟨_, rfl⟩
  have hP : va_P (dC, dI) vwCl ([(kc5 (hO 0) .null (.ref (hQ 0)) (.int 0) (.int 0) (.int 0) (.int (-1)) (.ref q23) (.ref q31) (.ref q38) (.ref q46) (.ref q54) (.ref q62) (.ref r70) (.ref r78) (.ref q85) (.ref r98) (.ref q105) (.ref q116) .null), (kr0 q23 kI 64), (kl0 q31 kw 24), (kl0 q38 kw 3), (kr0 q46 kI 8), (kr0 q54 kI 8), (kr0 q62 kI 12), (kq0 r70 kb 8 (fW 8 h70)), (kq0 r78 kb 3 (fW 3 h78)), (kq0 r98 kb 8 (fW 8 h98)), (kq0 r128 kb 4 (fW 4 h128))] ++ (T9_7)) H := by rw [eT9_7]; exact hP
  have hD : va_D A ([(kc5 (hO 0) .null (.ref (hQ 0)) (.int 0) (.int 0) (.int 0) (.int (-1)) (.ref q23) (.ref q31) (.ref q38) (.ref q46) (.ref q54) (.ref q62) (.ref r70) (.ref r78) (.ref q85) (.ref r98) (.ref q105) (.ref q116) .null), (kr0 q23 kI 64), (kl0 q31 kw 24), (kl0 q38 kw 3), (kr0 q46 kI 8), (kr0 q54 kI 8), (kr0 q62 kI 12), (kq0 r70 kb 8 (fW 8 h70)), (kq0 r78 kb 3 (fW 3 h78)), (kq0 r98 kb 8 (fW 8 h98)), (kq0 r128 kb 4 (fW 4 h128))] ++ (T9_7)) := by rw [eT9_7]; exact hD
  refine W.widen (k := 879) (n := 8021) (by omega) (by omega) ?_
  refine va_putF (D := (dC, dI)) (ci := 5) (v := .ref r128) (ty := .array (.object "OptimaWorks$Whole")) (C := RX5) (T := TX5) (N := 19) hx hb hts iwsKX5_init_in5 tyX5 tyX5_ok nmX5 hown hK hP hD hS 0 rfl rfl 18 (by decide) (hts (.fieldLink RX5 71 "OptimaWorks$Solver" "spare" "[LOptimaWorks$Whole;") (by decide +kernel)) (fun _ h9 => h9) rfl hin rfl (by decide +kernel) rfl rfl (Nat.le_of_ble_eq_true rfl) dX5_init_131 (fun H locs hP hD hS => ?_)
  have hP : va_P (dC, dI) vwCl ([(kc5 (hO 0) .null (.ref (hQ 0)) (.int 0) (.int 0) (.int 0) (.int (-1)) (.ref q23) (.ref q31) (.ref q38) (.ref q46) (.ref q54) (.ref q62) (.ref r70) (.ref r78) (.ref q85) (.ref r98) (.ref q105) (.ref q116) (.ref r128)), (kr0 q23 kI 64), (kl0 q31 kw 24), (kl0 q38 kw 3), (kr0 q46 kI 8), (kr0 q54 kI 8), (kr0 q62 kI 12), (kq0 r70 kb 8 (fW 8 h70)), (kq0 r78 kb 3 (fW 3 h78)), (kq0 r98 kb 8 (fW 8 h98)), (kq0 r128 kb 4 (fW 4 h128))] ++ (T9_7)) H := hP
  have hD := fz_sd hP (hD) rfl
  refine lv_aload_n hx hb dX5_init_134 rfl (lv_at hl 0 rfl) ?_
  refine lv_aload_n hx hb dX5_init_135 rfl (lv_at hl 1 rfl) ?_
  refine va_putF (D := (dC, dI)) (ci := 5) (v := .ref (hM 0)) (ty := .object "OptimaWorks$Model") (C := RX5) (T := TX5) (N := 19) hx hb hts iwsKX5_init_in5 tyX5 tyX5_ok nmX5 hown hK hP hD hS 0 rfl rfl 0 (by decide) (hts (.fieldLink RX5 74 "OptimaWorks$Solver" "model" "LOptimaWorks$Model;") (by decide +kernel)) (fun _ h9 => h9) rfl hin rfl (by decide +kernel) rfl rfl (Nat.le_of_ble_eq_true rfl) dX5_init_136 (fun H locs hP hD hS => ?_)
  have hP : va_P (dC, dI) vwCl ([(kc5 (hO 0) (.ref (hM 0)) (.ref (hQ 0)) (.int 0) (.int 0) (.int 0) (.int (-1)) (.ref q23) (.ref q31) (.ref q38) (.ref q46) (.ref q54) (.ref q62) (.ref r70) (.ref r78) (.ref q85) (.ref r98) (.ref q105) (.ref q116) (.ref r128)), (kr0 q23 kI 64), (kl0 q31 kw 24), (kl0 q38 kw 3), (kr0 q46 kI 8), (kr0 q54 kI 8), (kr0 q62 kI 12), (kq0 r70 kb 8 (fW 8 h70)), (kq0 r78 kb 3 (fW 3 h78)), (kq0 r98 kb 8 (fW 8 h98)), (kq0 r128 kb 4 (fW 4 h128))] ++ (T9_7)) H := hP
  have hD := fz_sd hP (hD) rfl
  subst eT9_7
  subst eT9_6
  subst eT9_5
  subst eT9_4
  subst eT9_3
  subst eT9_2
  subst eT9_1
  subst eT9_0
  obtain ⟨L9, eL9⟩ : ∃ t9 : va_W, t9 = [(kc5 (hO 0) (.ref (hM 0)) (.ref (hQ 0)) (.int 0) (.int 0) (.int 0) (.int (-1)) (.ref q23) (.ref q31) (.ref q38) (.ref q46) (.ref q54) (.ref q62) (.ref r70) (.ref r78) (.ref q85) (.ref r98) (.ref q105) (.ref q116) (.ref r128)), (kr0 q23 kI 64), (kl0 q31 kw 24), (kl0 q38 kw 3), (kr0 q46 kI 8), (kr0 q54 kI 8), (kr0 q62 kI 12), (kq0 r70 kb 8 (fW 8 h70)), (kq0 r78 kb 3 (fW 3 h78)), (kq0 r98 kb 8 (fW 8 h98)), (kq0 r128 kb 4 (fW 4 h128))] := ⟨_, rfl⟩
  have hP : va_P (dC, dI) vwCl (L9 ++ (WW 4 h128 l128 kw (fun _ => 0) (fun _ => 0) (fun _ _ => 0) ++ (WW 1 (fun _ => q116) (fun _ => y116) kw (fun _ => 0) (fun _ => 0) (fun _ _ => 0) ++ (WW 1 (fun _ => q105) (fun _ => y105) kw (fun _ => 0) (fun _ => 0) (fun _ _ => 0) ++ (WW 8 h98 l98 kw (fun _ => 0) (fun _ => 0) (fun _ _ => 0) ++ (WW 1 (fun _ => q85) (fun _ => y85) kw (fun _ => 0) (fun _ => 0) (fun _ _ => 0) ++ (WW 3 h78 l78 kw (fun _ => 0) (fun _ => 0) (fun _ _ => 0) ++ (WW 8 h70 l70 kw (fun _ => 0) (fun _ => 0) (fun _ _ => 0) ++ (WQ hQ aQ (fun j => ([kb, kI, kI, kZ] : List ClassId).getD j kb) hw6 (fun _ => 0) (fun _ => 0) (fun _ => 0) 0 0 0 ++ (WW 406 hw6 lw6 kw (fun _ => 0) (fun _ => 0) (fun _ _ => 0))))))))))) H := by rw [eL9]; exact hP
  have hD : va_D A (L9 ++ (WW 4 h128 l128 kw (fun _ => 0) (fun _ => 0) (fun _ _ => 0) ++ (WW 1 (fun _ => q116) (fun _ => y116) kw (fun _ => 0) (fun _ => 0) (fun _ _ => 0) ++ (WW 1 (fun _ => q105) (fun _ => y105) kw (fun _ => 0) (fun _ => 0) (fun _ _ => 0) ++ (WW 8 h98 l98 kw (fun _ => 0) (fun _ => 0) (fun _ _ => 0) ++ (WW 1 (fun _ => q85) (fun _ => y85) kw (fun _ => 0) (fun _ => 0) (fun _ _ => 0) ++ (WW 3 h78 l78 kw (fun _ => 0) (fun _ => 0) (fun _ _ => 0) ++ (WW 8 h70 l70 kw (fun _ => 0) (fun _ => 0) (fun _ _ => 0) ++ (WQ hQ aQ (fun j => ([kb, kI, kI, kZ] : List ClassId).getD j kb) hw6 (fun _ => 0) (fun _ => 0) (fun _ => 0) 0 0 0 ++ (WW 406 hw6 lw6 kw (fun _ => 0) (fun _ => 0) (fun _ _ => 0))))))))))) := by rw [eL9]; exact hD
  have pj := kj_X5_init (WW 4 h128 l128 kw (fun _ => 0) (fun _ => 0) (fun _ _ => 0)) (WW 1 (fun _ => q116) (fun _ => y116) kw (fun _ => 0) (fun _ => 0) (fun _ _ => 0)) (WW 1 (fun _ => q105) (fun _ => y105) kw (fun _ => 0) (fun _ => 0) (fun _ _ => 0)) (WW 8 h98 l98 kw (fun _ => 0) (fun _ => 0) (fun _ _ => 0)) (WW 1 (fun _ => q85) (fun _ => y85) kw (fun _ => 0) (fun _ => 0) (fun _ _ => 0)) (WW 3 h78 l78 kw (fun _ => 0) (fun _ => 0) (fun _ _ => 0)) (WW 8 h70 l70 kw (fun _ => 0) (fun _ => 0) (fun _ _ => 0)) (WQ hQ aQ (fun j => ([kb, kI, kI, kZ] : List ClassId).getD j kb) hw6 (fun _ => 0) (fun _ => 0) (fun _ => 0) 0 0 0) (WW 406 hw6 lw6 kw (fun _ => 0) (fun _ => 0) (fun _ _ => 0))
  have hP := hP.mem (fun q h => (List.Perm.append_left L9 pj).mem_iff.mpr h)
  have hD := hD.perm (List.Perm.append_left L9 pj)
  clear pj
  have pj : List.Perm (α := Nat × va_E) (WQ hQ aQ (fun j => ([kb, kI, kI, kZ] : List ClassId).getD j kb) hw6 (fun _ => 0) (fun _ => 0) (fun _ => 0) 0 0 0 ++ (WW 406 hw6 lw6 kw (fun _ => 0) (fun _ => 0) (fun _ _ => 0) ++ (WW 8 h70 l70 kw (fun _ => 0) (fun _ => 0) (fun _ _ => 0) ++ (WW 3 h78 l78 kw (fun _ => 0) (fun _ => 0) (fun _ _ => 0) ++ (WW 1 (fun _ => q85) (fun _ => y85) kw (fun _ => 0) (fun _ => 0) (fun _ _ => 0) ++ (WW 8 h98 l98 kw (fun _ => 0) (fun _ => 0) (fun _ _ => 0) ++ (WW 1 (fun _ => q105) (fun _ => y105) kw (fun _ => 0) (fun _ => 0) (fun _ _ => 0) ++ (WW 1 (fun _ => q116) (fun _ => y116) kw (fun _ => 0) (fun _ => 0) (fun _ _ => 0) ++ (WW 4 h128 l128 kw (fun _ => 0) (fun _ => 0) (fun _ _ => 0)))))))))) (WQ hQ aQ (fun j => ([kb, kI, kI, kZ] : List ClassId).getD j kb) hw6 (fun _ => 0) (fun _ => 0) (fun _ => 0) 0 0 0 ++ (WW 414 (jn 406 hw6 h70) (jn 406 lw6 l70) kw (fun _ => 0) (fun _ => 0) (fun _ _ => 0) ++ (WW 3 h78 l78 kw (fun _ => 0) (fun _ => 0) (fun _ _ => 0) ++ (WW 1 (fun _ => q85) (fun _ => y85) kw (fun _ => 0) (fun _ => 0) (fun _ _ => 0) ++ (WW 8 h98 l98 kw (fun _ => 0) (fun _ => 0) (fun _ _ => 0) ++ (WW 1 (fun _ => q105) (fun _ => y105) kw (fun _ => 0) (fun _ => 0) (fun _ _ => 0) ++ (WW 1 (fun _ => q116) (fun _ => y116) kw (fun _ => 0) (fun _ => 0) (fun _ _ => 0) ++ (WW 4 h128 l128 kw (fun _ => 0) (fun _ => 0) (fun _ _ => 0))))))))) := (List.Perm.append_left _ WW_ap2)
  have hP := hP.mem (fun q h => (List.Perm.append_left L9 pj).mem_iff.mpr h)
  have hD := hD.perm (List.Perm.append_left L9 pj)
  clear pj
  have pj : List.Perm (α := Nat × va_E) (WQ hQ aQ (fun j => ([kb, kI, kI, kZ] : List ClassId).getD j kb) hw6 (fun _ => 0) (fun _ => 0) (fun _ => 0) 0 0 0 ++ (WW 414 (jn 406 hw6 h70) (jn 406 lw6 l70) kw (fun _ => 0) (fun _ => 0) (fun _ _ => 0) ++ (WW 3 h78 l78 kw (fun _ => 0) (fun _ => 0) (fun _ _ => 0) ++ (WW 1 (fun _ => q85) (fun _ => y85) kw (fun _ => 0) (fun _ => 0) (fun _ _ => 0) ++ (WW 8 h98 l98 kw (fun _ => 0) (fun _ => 0) (fun _ _ => 0) ++ (WW 1 (fun _ => q105) (fun _ => y105) kw (fun _ => 0) (fun _ => 0) (fun _ _ => 0) ++ (WW 1 (fun _ => q116) (fun _ => y116) kw (fun _ => 0) (fun _ => 0) (fun _ _ => 0) ++ (WW 4 h128 l128 kw (fun _ => 0) (fun _ => 0) (fun _ _ => 0))))))))) (WQ hQ aQ (fun j => ([kb, kI, kI, kZ] : List ClassId).getD j kb) hw6 (fun _ => 0) (fun _ => 0) (fun _ => 0) 0 0 0 ++ (WW 417 (jn 414 (jn 406 hw6 h70) h78) (jn 414 (jn 406 lw6 l70) l78) kw (fun _ => 0) (fun _ => 0) (fun _ _ => 0) ++ (WW 1 (fun _ => q85) (fun _ => y85) kw (fun _ => 0) (fun _ => 0) (fun _ _ => 0) ++ (WW 8 h98 l98 kw (fun _ => 0) (fun _ => 0) (fun _ _ => 0) ++ (WW 1 (fun _ => q105) (fun _ => y105) kw (fun _ => 0) (fun _ => 0) (fun _ _ => 0) ++ (WW 1 (fun _ => q116) (fun _ => y116) kw (fun _ => 0) (fun _ => 0) (fun _ _ => 0) ++ (WW 4 h128 l128 kw (fun _ => 0) (fun _ => 0) (fun _ _ => 0)))))))) := (List.Perm.append_left _ WW_ap2)
  have hP := hP.mem (fun q h => (List.Perm.append_left L9 pj).mem_iff.mpr h)
  have hD := hD.perm (List.Perm.append_left L9 pj)
  clear pj
  have pj : List.Perm (α := Nat × va_E) (WQ hQ aQ (fun j => ([kb, kI, kI, kZ] : List ClassId).getD j kb) hw6 (fun _ => 0) (fun _ => 0) (fun _ => 0) 0 0 0 ++ (WW 417 (jn 414 (jn 406 hw6 h70) h78) (jn 414 (jn 406 lw6 l70) l78) kw (fun _ => 0) (fun _ => 0) (fun _ _ => 0) ++ (WW 1 (fun _ => q85) (fun _ => y85) kw (fun _ => 0) (fun _ => 0) (fun _ _ => 0) ++ (WW 8 h98 l98 kw (fun _ => 0) (fun _ => 0) (fun _ _ => 0) ++ (WW 1 (fun _ => q105) (fun _ => y105) kw (fun _ => 0) (fun _ => 0) (fun _ _ => 0) ++ (WW 1 (fun _ => q116) (fun _ => y116) kw (fun _ => 0) (fun _ => 0) (fun _ _ => 0) ++ (WW 4 h128 l128 kw (fun _ => 0) (fun _ => 0) (fun _ _ => 0)))))))) (WQ hQ aQ (fun j => ([kb, kI, kI, kZ] : List ClassId).getD j kb) hw6 (fun _ => 0) (fun _ => 0) (fun _ => 0) 0 0 0 ++ (WW 418 (jn 417 (jn 414 (jn 406 hw6 h70) h78) (fun _ => q85)) (jn 417 (jn 414 (jn 406 lw6 l70) l78) (fun _ => y85)) kw (fun _ => 0) (fun _ => 0) (fun _ _ => 0) ++ (WW 8 h98 l98 kw (fun _ => 0) (fun _ => 0) (fun _ _ => 0) ++ (WW 1 (fun _ => q105) (fun _ => y105) kw (fun _ => 0) (fun _ => 0) (fun _ _ => 0) ++ (WW 1 (fun _ => q116) (fun _ => y116) kw (fun _ => 0) (fun _ => 0) (fun _ _ => 0) ++ (WW 4 h128 l128 kw (fun _ => 0) (fun _ => 0) (fun _ _ => 0))))))) := (List.Perm.append_left _ WW_ap2)
  have hP := hP.mem (fun q h => (List.Perm.append_left L9 pj).mem_iff.mpr h)
  have hD := hD.perm (List.Perm.append_left L9 pj)
  clear pj
  have pj : List.Perm (α := Nat × va_E) (WQ hQ aQ (fun j => ([kb, kI, kI, kZ] : List ClassId).getD j kb) hw6 (fun _ => 0) (fun _ => 0) (fun _ => 0) 0 0 0 ++ (WW 418 (jn 417 (jn 414 (jn 406 hw6 h70) h78) (fun _ => q85)) (jn 417 (jn 414 (jn 406 lw6 l70) l78) (fun _ => y85)) kw (fun _ => 0) (fun _ => 0) (fun _ _ => 0) ++ (WW 8 h98 l98 kw (fun _ => 0) (fun _ => 0) (fun _ _ => 0) ++ (WW 1 (fun _ => q105) (fun _ => y105) kw (fun _ => 0) (fun _ => 0) (fun _ _ => 0) ++ (WW 1 (fun _ => q116) (fun _ => y116) kw (fun _ => 0) (fun _ => 0) (fun _ _ => 0) ++ (WW 4 h128 l128 kw (fun _ => 0) (fun _ => 0) (fun _ _ => 0))))))) (WQ hQ aQ (fun j => ([kb, kI, kI, kZ] : List ClassId).getD j kb) hw6 (fun _ => 0) (fun _ => 0) (fun _ => 0) 0 0 0 ++ (WW 426 (jn 418 (jn 417 (jn 414 (jn 406 hw6 h70) h78) (fun _ => q85)) h98) (jn 418 (jn 417 (jn 414 (jn 406 lw6 l70) l78) (fun _ => y85)) l98) kw (fun _ => 0) (fun _ => 0) (fun _ _ => 0) ++ (WW 1 (fun _ => q105) (fun _ => y105) kw (fun _ => 0) (fun _ => 0) (fun _ _ => 0) ++ (WW 1 (fun _ => q116) (fun _ => y116) kw (fun _ => 0) (fun _ => 0) (fun _ _ => 0) ++ (WW 4 h128 l128 kw (fun _ => 0) (fun _ => 0) (fun _ _ => 0)))))) := (List.Perm.append_left _ WW_ap2)
  have hP := hP.mem (fun q h => (List.Perm.append_left L9 pj).mem_iff.mpr h)
  have hD := hD.perm (List.Perm.append_left L9 pj)
  clear pj
  have pj : List.Perm (α := Nat × va_E) (WQ hQ aQ (fun j => ([kb, kI, kI, kZ] : List ClassId).getD j kb) hw6 (fun _ => 0) (fun _ => 0) (fun _ => 0) 0 0 0 ++ (WW 426 (jn 418 (jn 417 (jn 414 (jn 406 hw6 h70) h78) (fun _ => q85)) h98) (jn 418 (jn 417 (jn 414 (jn 406 lw6 l70) l78) (fun _ => y85)) l98) kw (fun _ => 0) (fun _ => 0) (fun _ _ => 0) ++ (WW 1 (fun _ => q105) (fun _ => y105) kw (fun _ => 0) (fun _ => 0) (fun _ _ => 0) ++ (WW 1 (fun _ => q116) (fun _ => y116) kw (fun _ => 0) (fun _ => 0) (fun _ _ => 0) ++ (WW 4 h128 l128 kw (fun _ => 0) (fun _ => 0) (fun _ _ => 0)))))) (WQ hQ aQ (fun j => ([kb, kI, kI, kZ] : List ClassId).getD j kb) hw6 (fun _ => 0) (fun _ => 0) (fun _ => 0) 0 0 0 ++ (WW 427 (jn 426 (jn 418 (jn 417 (jn 414 (jn 406 hw6 h70) h78) (fun _ => q85)) h98) (fun _ => q105)) (jn 426 (jn 418 (jn 417 (jn 414 (jn 406 lw6 l70) l78) (fun _ => y85)) l98) (fun _ => y105)) kw (fun _ => 0) (fun _ => 0) (fun _ _ => 0) ++ (WW 1 (fun _ => q116) (fun _ => y116) kw (fun _ => 0) (fun _ => 0) (fun _ _ => 0) ++ (WW 4 h128 l128 kw (fun _ => 0) (fun _ => 0) (fun _ _ => 0))))) := (List.Perm.append_left _ WW_ap2)
  have hP := hP.mem (fun q h => (List.Perm.append_left L9 pj).mem_iff.mpr h)
  have hD := hD.perm (List.Perm.append_left L9 pj)
  clear pj
  have pj : List.Perm (α := Nat × va_E) (WQ hQ aQ (fun j => ([kb, kI, kI, kZ] : List ClassId).getD j kb) hw6 (fun _ => 0) (fun _ => 0) (fun _ => 0) 0 0 0 ++ (WW 427 (jn 426 (jn 418 (jn 417 (jn 414 (jn 406 hw6 h70) h78) (fun _ => q85)) h98) (fun _ => q105)) (jn 426 (jn 418 (jn 417 (jn 414 (jn 406 lw6 l70) l78) (fun _ => y85)) l98) (fun _ => y105)) kw (fun _ => 0) (fun _ => 0) (fun _ _ => 0) ++ (WW 1 (fun _ => q116) (fun _ => y116) kw (fun _ => 0) (fun _ => 0) (fun _ _ => 0) ++ (WW 4 h128 l128 kw (fun _ => 0) (fun _ => 0) (fun _ _ => 0))))) (WQ hQ aQ (fun j => ([kb, kI, kI, kZ] : List ClassId).getD j kb) hw6 (fun _ => 0) (fun _ => 0) (fun _ => 0) 0 0 0 ++ (WW 428 (jn 427 (jn 426 (jn 418 (jn 417 (jn 414 (jn 406 hw6 h70) h78) (fun _ => q85)) h98) (fun _ => q105)) (fun _ => q116)) (jn 427 (jn 426 (jn 418 (jn 417 (jn 414 (jn 406 lw6 l70) l78) (fun _ => y85)) l98) (fun _ => y105)) (fun _ => y116)) kw (fun _ => 0) (fun _ => 0) (fun _ _ => 0) ++ (WW 4 h128 l128 kw (fun _ => 0) (fun _ => 0) (fun _ _ => 0)))) := (List.Perm.append_left _ WW_ap2)
  have hP := hP.mem (fun q h => (List.Perm.append_left L9 pj).mem_iff.mpr h)
  have hD := hD.perm (List.Perm.append_left L9 pj)
  clear pj
  have pj : List.Perm (α := Nat × va_E) (WQ hQ aQ (fun j => ([kb, kI, kI, kZ] : List ClassId).getD j kb) hw6 (fun _ => 0) (fun _ => 0) (fun _ => 0) 0 0 0 ++ (WW 428 (jn 427 (jn 426 (jn 418 (jn 417 (jn 414 (jn 406 hw6 h70) h78) (fun _ => q85)) h98) (fun _ => q105)) (fun _ => q116)) (jn 427 (jn 426 (jn 418 (jn 417 (jn 414 (jn 406 lw6 l70) l78) (fun _ => y85)) l98) (fun _ => y105)) (fun _ => y116)) kw (fun _ => 0) (fun _ => 0) (fun _ _ => 0) ++ (WW 4 h128 l128 kw (fun _ => 0) (fun _ => 0) (fun _ _ => 0)))) (WQ hQ aQ (fun j => ([kb, kI, kI, kZ] : List ClassId).getD j kb) hw6 (fun _ => 0) (fun _ => 0) (fun _ => 0) 0 0 0 ++ (WW 432 (jn 428 (jn 427 (jn 426 (jn 418 (jn 417 (jn 414 (jn 406 hw6 h70) h78) (fun _ => q85)) h98) (fun _ => q105)) (fun _ => q116)) h128) (jn 428 (jn 427 (jn 426 (jn 418 (jn 417 (jn 414 (jn 406 lw6 l70) l78) (fun _ => y85)) l98) (fun _ => y105)) (fun _ => y116)) l128) kw (fun _ => 0) (fun _ => 0) (fun _ _ => 0))) := (List.Perm.append_left _ WW_app)
  have hP := hP.mem (fun q h => (List.Perm.append_left L9 pj).mem_iff.mpr h)
  have hD := hD.perm (List.Perm.append_left L9 pj)
  clear pj
  subst eL9
  obtain ⟨hF, hFe⟩ : ∃ f9, f9 = jn 428 (jn 427 (jn 426 (jn 418 (jn 417 (jn 414 (jn 406 hw6 h70) h78) (fun _ => q85)) h98) (fun _ => q105)) (fun _ => q116)) h128 := ⟨_, rfl⟩
  obtain ⟨lF, hLe⟩ : ∃ f9, f9 = jn 428 (jn 427 (jn 426 (jn 418 (jn 417 (jn 414 (jn 406 lw6 l70) l78) (fun _ => y85)) l98) (fun _ => y105)) (fun _ => y116)) l128 := ⟨_, rfl⟩
  rw [← hFe, ← hLe] at hP hD
  have hc0 : ∀ j, j < 406 → hw6 j = hF j := fun j hj => by rw [hFe, jn_l (by omega), jn_l (by omega), jn_l (by omega), jn_l (by omega), jn_l (by omega), jn_l (by omega), jn_l (by omega)]
  have hc1 : ∀ j, j < 8 → h70 j = hF (406 + j) := fun j hj => by rw [hFe, jn_l (by omega), jn_l (by omega), jn_l (by omega), jn_l (by omega), jn_l (by omega), jn_l (by omega), jn_r]
  have hc2 : ∀ j, j < 3 → h78 j = hF (414 + j) := fun j hj => by rw [hFe, jn_l (by omega), jn_l (by omega), jn_l (by omega), jn_l (by omega), jn_l (by omega), jn_r]
  have hq3 : q85 = hF 417 := by rw [hFe]; rfl
  have hc4 : ∀ j, j < 8 → h98 j = hF (418 + j) := fun j hj => by rw [hFe, jn_l (by omega), jn_l (by omega), jn_l (by omega), jn_r]
  have hq5 : q105 = hF 426 := by rw [hFe]; rfl
  have hq6 : q116 = hF 427 := by rw [hFe]; rfl
  have hc7 : ∀ j, j < 4 → h128 j = hF (428 + j) := fun j hj => by rw [hFe, jn_r]
  clear hFe hLe
  have hP := WQ_cg (X := [(kc5 (hO 0) (.ref (hM 0)) (.ref (hQ 0)) (.int 0) (.int 0) (.int 0) (.int (-1)) (.ref q23) (.ref q31) (.ref q38) (.ref q46) (.ref q54) (.ref q62) (.ref r70) (.ref r78) (.ref q85) (.ref r98) (.ref q105) (.ref q116) (.ref r128)), (kr0 q23 kI 64), (kl0 q31 kw 24), (kl0 q38 kw 3), (kr0 q46 kI 8), (kr0 q54 kI 8), (kr0 q62 kI 12), (kq0 r70 kb 8 (fW 8 h70)), (kq0 r78 kb 3 (fW 3 h78)), (kq0 r98 kb 8 (fW 8 h98)), (kq0 r128 kb 4 (fW 4 h128))]) (Y := WW 432 hF lF kw (fun _ => 0) (fun _ => 0) (fun _ _ => 0)) hc0 hP
  have hD : va_D A ([(kc5 (hO 0) (.ref (hM 0)) (.ref (hQ 0)) (.int 0) (.int 0) (.int 0) (.int (-1)) (.ref q23) (.ref q31) (.ref q38) (.ref q46) (.ref q54) (.ref q62) (.ref r70) (.ref r78) (.ref q85) (.ref r98) (.ref q105) (.ref q116) (.ref r128)), (kr0 q23 kI 64), (kl0 q31 kw 24), (kl0 q38 kw 3), (kr0 q46 kI 8), (kr0 q54 kI 8), (kr0 q62 kI 12), (kq0 r70 kb 8 (fW 8 h70)), (kq0 r78 kb 3 (fW 3 h78)), (kq0 r98 kb 8 (fW 8 h98)), (kq0 r128 kb 4 (fW 4 h128))] ++ (WQ hQ aQ (fun j => ([kb, kI, kI, kZ] : List ClassId).getD j kb) hF (fun _ => 0) (fun _ => 0) (fun _ => 0) 0 0 0 ++ (WW 432 hF lF kw (fun _ => 0) (fun _ => 0) (fun _ _ => 0)))) := fst_D2 (X := [(kc5 (hO 0) (.ref (hM 0)) (.ref (hQ 0)) (.int 0) (.int 0) (.int 0) (.int (-1)) (.ref q23) (.ref q31) (.ref q38) (.ref q46) (.ref q54) (.ref q62) (.ref r70) (.ref r78) (.ref q85) (.ref r98) (.ref q105) (.ref q116) (.ref r128)), (kr0 q23 kI 64), (kl0 q31 kw 24), (kl0 q38 kw 3), (kr0 q46 kI 8), (kr0 q54 kI 8), (kr0 q62 kI 12), (kq0 r70 kb 8 (fW 8 h70)), (kq0 r78 kb 3 (fW 3 h78)), (kq0 r98 kb 8 (fW 8 h98)), (kq0 r128 kb 4 (fW 4 h128))]) (W := WQ hQ aQ (fun j => ([kb, kI, kI, kZ] : List ClassId).getD j kb) hw6 (fun _ => 0) (fun _ => 0) (fun _ => 0) 0 0 0) (Y := WW 432 hF lF kw (fun _ => 0) (fun _ => 0) (fun _ _ => 0)) hD rfl
  have hP := va_P.cg (X := [(kc5 (hO 0) (.ref (hM 0)) (.ref (hQ 0)) (.int 0) (.int 0) (.int 0) (.int (-1)) (.ref q23) (.ref q31) (.ref q38) (.ref q46) (.ref q54) (.ref q62) (.ref r70) (.ref r78) (.ref q85) (.ref r98) (.ref q105) (.ref q116) (.ref r128)), (kr0 q23 kI 64), (kl0 q31 kw 24), (kl0 q38 kw 3), (kr0 q46 kI 8), (kr0 q54 kI 8), (kr0 q62 kI 12)]) (Y := [(kq0 r78 kb 3 (fW 3 h78)), (kq0 r98 kb 8 (fW 8 h98)), (kq0 r128 kb 4 (fW 4 h128))] ++ (WQ hQ aQ (fun j => ([kb, kI, kI, kZ] : List ClassId).getD j kb) hF (fun _ => 0) (fun _ => 0) (fun _ => 0) 0 0 0 ++ (WW 432 hF lF kw (fun _ => 0) (fun _ => 0) (fun _ _ => 0)))) hP (fW_all (g := fun q => hF (406 + q)) hc1)
  have hD : va_D A ([(kc5 (hO 0) (.ref (hM 0)) (.ref (hQ 0)) (.int 0) (.int 0) (.int 0) (.int (-1)) (.ref q23) (.ref q31) (.ref q38) (.ref q46) (.ref q54) (.ref q62) (.ref r70) (.ref r78) (.ref q85) (.ref r98) (.ref q105) (.ref q116) (.ref r128)), (kr0 q23 kI 64), (kl0 q31 kw 24), (kl0 q38 kw 3), (kr0 q46 kI 8), (kr0 q54 kI 8), (kr0 q62 kI 12), (r70, .inl (kb, 8, .inr (.inr (.inr (.inr (fun q => some (hF (406 + q)))))))), (kq0 r78 kb 3 (fW 3 h78)), (kq0 r98 kb 8 (fW 8 h98)), (kq0 r128 kb 4 (fW 4 h128))] ++ (WQ hQ aQ (fun j => ([kb, kI, kI, kZ] : List ClassId).getD j kb) hF (fun _ => 0) (fun _ => 0) (fun _ => 0) 0 0 0 ++ (WW 432 hF lF kw (fun _ => 0) (fun _ => 0) (fun _ _ => 0)))) := va_D.cg (X := [(kc5 (hO 0) (.ref (hM 0)) (.ref (hQ 0)) (.int 0) (.int 0) (.int 0) (.int (-1)) (.ref q23) (.ref q31) (.ref q38) (.ref q46) (.ref q54) (.ref q62) (.ref r70) (.ref r78) (.ref q85) (.ref r98) (.ref q105) (.ref q116) (.ref r128)), (kr0 q23 kI 64), (kl0 q31 kw 24), (kl0 q38 kw 3), (kr0 q46 kI 8), (kr0 q54 kI 8), (kr0 q62 kI 12)]) (Y := [(kq0 r78 kb 3 (fW 3 h78)), (kq0 r98 kb 8 (fW 8 h98)), (kq0 r128 kb 4 (fW 4 h128))] ++ (WQ hQ aQ (fun j => ([kb, kI, kI, kZ] : List ClassId).getD j kb) hF (fun _ => 0) (fun _ => 0) (fun _ => 0) 0 0 0 ++ (WW 432 hF lF kw (fun _ => 0) (fun _ => 0) (fun _ _ => 0)))) hD
  have hP : va_P (dC, dI) vwCl ([(kc5 (hO 0) (.ref (hM 0)) (.ref (hQ 0)) (.int 0) (.int 0) (.int 0) (.int (-1)) (.ref q23) (.ref q31) (.ref q38) (.ref q46) (.ref q54) (.ref q62) (.ref r70) (.ref r78) (.ref q85) (.ref r98) (.ref q105) (.ref q116) (.ref r128)), (kr0 q23 kI 64), (kl0 q31 kw 24), (kl0 q38 kw 3), (kr0 q46 kI 8), (kr0 q54 kI 8), (kr0 q62 kI 12), (r70, .inl (kb, 8, .inr (.inr (.inr (.inr (fun q => some (hF (406 + q)))))))), (kq0 r78 kb 3 (fW 3 h78)), (kq0 r98 kb 8 (fW 8 h98)), (kq0 r128 kb 4 (fW 4 h128))] ++ (WQ hQ aQ (fun j => ([kb, kI, kI, kZ] : List ClassId).getD j kb) hF (fun _ => 0) (fun _ => 0) (fun _ => 0) 0 0 0 ++ (WW 432 hF lF kw (fun _ => 0) (fun _ => 0) (fun _ _ => 0)))) H := hP
  have hP := va_P.cg (X := [(kc5 (hO 0) (.ref (hM 0)) (.ref (hQ 0)) (.int 0) (.int 0) (.int 0) (.int (-1)) (.ref q23) (.ref q31) (.ref q38) (.ref q46) (.ref q54) (.ref q62) (.ref r70) (.ref r78) (.ref q85) (.ref r98) (.ref q105) (.ref q116) (.ref r128)), (kr0 q23 kI 64), (kl0 q31 kw 24), (kl0 q38 kw 3), (kr0 q46 kI 8), (kr0 q54 kI 8), (kr0 q62 kI 12), (r70, .inl (kb, 8, .inr (.inr (.inr (.inr (fun q => some (hF (406 + q))))))))]) (Y := [(kq0 r98 kb 8 (fW 8 h98)), (kq0 r128 kb 4 (fW 4 h128))] ++ (WQ hQ aQ (fun j => ([kb, kI, kI, kZ] : List ClassId).getD j kb) hF (fun _ => 0) (fun _ => 0) (fun _ => 0) 0 0 0 ++ (WW 432 hF lF kw (fun _ => 0) (fun _ => 0) (fun _ _ => 0)))) hP (fW_all (g := fun q => hF (414 + q)) hc2)
  have hD : va_D A ([(kc5 (hO 0) (.ref (hM 0)) (.ref (hQ 0)) (.int 0) (.int 0) (.int 0) (.int (-1)) (.ref q23) (.ref q31) (.ref q38) (.ref q46) (.ref q54) (.ref q62) (.ref r70) (.ref r78) (.ref q85) (.ref r98) (.ref q105) (.ref q116) (.ref r128)), (kr0 q23 kI 64), (kl0 q31 kw 24), (kl0 q38 kw 3), (kr0 q46 kI 8), (kr0 q54 kI 8), (kr0 q62 kI 12), (r70, .inl (kb, 8, .inr (.inr (.inr (.inr (fun q => some (hF (406 + q)))))))), (r78, .inl (kb, 3, .inr (.inr (.inr (.inr (fun q => some (hF (414 + q)))))))), (kq0 r98 kb 8 (fW 8 h98)), (kq0 r128 kb 4 (fW 4 h128))] ++ (WQ hQ aQ (fun j => ([kb, kI, kI, kZ] : List ClassId).getD j kb) hF (fun _ => 0) (fun _ => 0) (fun _ => 0) 0 0 0 ++ (WW 432 hF lF kw (fun _ => 0) (fun _ => 0) (fun _ _ => 0)))) := va_D.cg (X := [(kc5 (hO 0) (.ref (hM 0)) (.ref (hQ 0)) (.int 0) (.int 0) (.int 0) (.int (-1)) (.ref q23) (.ref q31) (.ref q38) (.ref q46) (.ref q54) (.ref q62) (.ref r70) (.ref r78) (.ref q85) (.ref r98) (.ref q105) (.ref q116) (.ref r128)), (kr0 q23 kI 64), (kl0 q31 kw 24), (kl0 q38 kw 3), (kr0 q46 kI 8), (kr0 q54 kI 8), (kr0 q62 kI 12), (r70, .inl (kb, 8, .inr (.inr (.inr (.inr (fun q => some (hF (406 + q))))))))]) (Y := [(kq0 r98 kb 8 (fW 8 h98)), (kq0 r128 kb 4 (fW 4 h128))] ++ (WQ hQ aQ (fun j => ([kb, kI, kI, kZ] : List ClassId).getD j kb) hF (fun _ => 0) (fun _ => 0) (fun _ => 0) 0 0 0 ++ (WW 432 hF lF kw (fun _ => 0) (fun _ => 0) (fun _ _ => 0)))) hD
  have hP : va_P (dC, dI) vwCl ([(kc5 (hO 0) (.ref (hM 0)) (.ref (hQ 0)) (.int 0) (.int 0) (.int 0) (.int (-1)) (.ref q23) (.ref q31) (.ref q38) (.ref q46) (.ref q54) (.ref q62) (.ref r70) (.ref r78) (.ref q85) (.ref r98) (.ref q105) (.ref q116) (.ref r128)), (kr0 q23 kI 64), (kl0 q31 kw 24), (kl0 q38 kw 3), (kr0 q46 kI 8), (kr0 q54 kI 8), (kr0 q62 kI 12), (r70, .inl (kb, 8, .inr (.inr (.inr (.inr (fun q => some (hF (406 + q)))))))), (r78, .inl (kb, 3, .inr (.inr (.inr (.inr (fun q => some (hF (414 + q)))))))), (kq0 r98 kb 8 (fW 8 h98)), (kq0 r128 kb 4 (fW 4 h128))] ++ (WQ hQ aQ (fun j => ([kb, kI, kI, kZ] : List ClassId).getD j kb) hF (fun _ => 0) (fun _ => 0) (fun _ => 0) 0 0 0 ++ (WW 432 hF lF kw (fun _ => 0) (fun _ => 0) (fun _ _ => 0)))) H := hP
  have hP := va_P.cg (X := [(kc5 (hO 0) (.ref (hM 0)) (.ref (hQ 0)) (.int 0) (.int 0) (.int 0) (.int (-1)) (.ref q23) (.ref q31) (.ref q38) (.ref q46) (.ref q54) (.ref q62) (.ref r70) (.ref r78) (.ref q85) (.ref r98) (.ref q105) (.ref q116) (.ref r128)), (kr0 q23 kI 64), (kl0 q31 kw 24), (kl0 q38 kw 3), (kr0 q46 kI 8), (kr0 q54 kI 8), (kr0 q62 kI 12), (r70, .inl (kb, 8, .inr (.inr (.inr (.inr (fun q => some (hF (406 + q)))))))), (r78, .inl (kb, 3, .inr (.inr (.inr (.inr (fun q => some (hF (414 + q))))))))]) (Y := [(kq0 r128 kb 4 (fW 4 h128))] ++ (WQ hQ aQ (fun j => ([kb, kI, kI, kZ] : List ClassId).getD j kb) hF (fun _ => 0) (fun _ => 0) (fun _ => 0) 0 0 0 ++ (WW 432 hF lF kw (fun _ => 0) (fun _ => 0) (fun _ _ => 0)))) hP (fW_all (g := fun q => hF (418 + q)) hc4)
  have hD : va_D A ([(kc5 (hO 0) (.ref (hM 0)) (.ref (hQ 0)) (.int 0) (.int 0) (.int 0) (.int (-1)) (.ref q23) (.ref q31) (.ref q38) (.ref q46) (.ref q54) (.ref q62) (.ref r70) (.ref r78) (.ref q85) (.ref r98) (.ref q105) (.ref q116) (.ref r128)), (kr0 q23 kI 64), (kl0 q31 kw 24), (kl0 q38 kw 3), (kr0 q46 kI 8), (kr0 q54 kI 8), (kr0 q62 kI 12), (r70, .inl (kb, 8, .inr (.inr (.inr (.inr (fun q => some (hF (406 + q)))))))), (r78, .inl (kb, 3, .inr (.inr (.inr (.inr (fun q => some (hF (414 + q)))))))), (r98, .inl (kb, 8, .inr (.inr (.inr (.inr (fun q => some (hF (418 + q)))))))), (kq0 r128 kb 4 (fW 4 h128))] ++ (WQ hQ aQ (fun j => ([kb, kI, kI, kZ] : List ClassId).getD j kb) hF (fun _ => 0) (fun _ => 0) (fun _ => 0) 0 0 0 ++ (WW 432 hF lF kw (fun _ => 0) (fun _ => 0) (fun _ _ => 0)))) := va_D.cg (X := [(kc5 (hO 0) (.ref (hM 0)) (.ref (hQ 0)) (.int 0) (.int 0) (.int 0) (.int (-1)) (.ref q23) (.ref q31) (.ref q38) (.ref q46) (.ref q54) (.ref q62) (.ref r70) (.ref r78) (.ref q85) (.ref r98) (.ref q105) (.ref q116) (.ref r128)), (kr0 q23 kI 64), (kl0 q31 kw 24), (kl0 q38 kw 3), (kr0 q46 kI 8), (kr0 q54 kI 8), (kr0 q62 kI 12), (r70, .inl (kb, 8, .inr (.inr (.inr (.inr (fun q => some (hF (406 + q)))))))), (r78, .inl (kb, 3, .inr (.inr (.inr (.inr (fun q => some (hF (414 + q))))))))]) (Y := [(kq0 r128 kb 4 (fW 4 h128))] ++ (WQ hQ aQ (fun j => ([kb, kI, kI, kZ] : List ClassId).getD j kb) hF (fun _ => 0) (fun _ => 0) (fun _ => 0) 0 0 0 ++ (WW 432 hF lF kw (fun _ => 0) (fun _ => 0) (fun _ _ => 0)))) hD
  have hP : va_P (dC, dI) vwCl ([(kc5 (hO 0) (.ref (hM 0)) (.ref (hQ 0)) (.int 0) (.int 0) (.int 0) (.int (-1)) (.ref q23) (.ref q31) (.ref q38) (.ref q46) (.ref q54) (.ref q62) (.ref r70) (.ref r78) (.ref q85) (.ref r98) (.ref q105) (.ref q116) (.ref r128)), (kr0 q23 kI 64), (kl0 q31 kw 24), (kl0 q38 kw 3), (kr0 q46 kI 8), (kr0 q54 kI 8), (kr0 q62 kI 12), (r70, .inl (kb, 8, .inr (.inr (.inr (.inr (fun q => some (hF (406 + q)))))))), (r78, .inl (kb, 3, .inr (.inr (.inr (.inr (fun q => some (hF (414 + q)))))))), (r98, .inl (kb, 8, .inr (.inr (.inr (.inr (fun q => some (hF (418 + q)))))))), (kq0 r128 kb 4 (fW 4 h128))] ++ (WQ hQ aQ (fun j => ([kb, kI, kI, kZ] : List ClassId).getD j kb) hF (fun _ => 0) (fun _ => 0) (fun _ => 0) 0 0 0 ++ (WW 432 hF lF kw (fun _ => 0) (fun _ => 0) (fun _ _ => 0)))) H := hP
  have hP := va_P.cg (X := [(kc5 (hO 0) (.ref (hM 0)) (.ref (hQ 0)) (.int 0) (.int 0) (.int 0) (.int (-1)) (.ref q23) (.ref q31) (.ref q38) (.ref q46) (.ref q54) (.ref q62) (.ref r70) (.ref r78) (.ref q85) (.ref r98) (.ref q105) (.ref q116) (.ref r128)), (kr0 q23 kI 64), (kl0 q31 kw 24), (kl0 q38 kw 3), (kr0 q46 kI 8), (kr0 q54 kI 8), (kr0 q62 kI 12), (r70, .inl (kb, 8, .inr (.inr (.inr (.inr (fun q => some (hF (406 + q)))))))), (r78, .inl (kb, 3, .inr (.inr (.inr (.inr (fun q => some (hF (414 + q)))))))), (r98, .inl (kb, 8, .inr (.inr (.inr (.inr (fun q => some (hF (418 + q))))))))]) (Y := [] ++ (WQ hQ aQ (fun j => ([kb, kI, kI, kZ] : List ClassId).getD j kb) hF (fun _ => 0) (fun _ => 0) (fun _ => 0) 0 0 0 ++ (WW 432 hF lF kw (fun _ => 0) (fun _ => 0) (fun _ _ => 0)))) hP (fW_all (g := fun q => hF (428 + q)) hc7)
  have hD : va_D A ([(kc5 (hO 0) (.ref (hM 0)) (.ref (hQ 0)) (.int 0) (.int 0) (.int 0) (.int (-1)) (.ref q23) (.ref q31) (.ref q38) (.ref q46) (.ref q54) (.ref q62) (.ref r70) (.ref r78) (.ref q85) (.ref r98) (.ref q105) (.ref q116) (.ref r128)), (kr0 q23 kI 64), (kl0 q31 kw 24), (kl0 q38 kw 3), (kr0 q46 kI 8), (kr0 q54 kI 8), (kr0 q62 kI 12), (r70, .inl (kb, 8, .inr (.inr (.inr (.inr (fun q => some (hF (406 + q)))))))), (r78, .inl (kb, 3, .inr (.inr (.inr (.inr (fun q => some (hF (414 + q)))))))), (r98, .inl (kb, 8, .inr (.inr (.inr (.inr (fun q => some (hF (418 + q)))))))), (r128, .inl (kb, 4, .inr (.inr (.inr (.inr (fun q => some (hF (428 + q))))))))] ++ (WQ hQ aQ (fun j => ([kb, kI, kI, kZ] : List ClassId).getD j kb) hF (fun _ => 0) (fun _ => 0) (fun _ => 0) 0 0 0 ++ (WW 432 hF lF kw (fun _ => 0) (fun _ => 0) (fun _ _ => 0)))) := va_D.cg (X := [(kc5 (hO 0) (.ref (hM 0)) (.ref (hQ 0)) (.int 0) (.int 0) (.int 0) (.int (-1)) (.ref q23) (.ref q31) (.ref q38) (.ref q46) (.ref q54) (.ref q62) (.ref r70) (.ref r78) (.ref q85) (.ref r98) (.ref q105) (.ref q116) (.ref r128)), (kr0 q23 kI 64), (kl0 q31 kw 24), (kl0 q38 kw 3), (kr0 q46 kI 8), (kr0 q54 kI 8), (kr0 q62 kI 12), (r70, .inl (kb, 8, .inr (.inr (.inr (.inr (fun q => some (hF (406 + q)))))))), (r78, .inl (kb, 3, .inr (.inr (.inr (.inr (fun q => some (hF (414 + q)))))))), (r98, .inl (kb, 8, .inr (.inr (.inr (.inr (fun q => some (hF (418 + q))))))))]) (Y := [] ++ (WQ hQ aQ (fun j => ([kb, kI, kI, kZ] : List ClassId).getD j kb) hF (fun _ => 0) (fun _ => 0) (fun _ => 0) 0 0 0 ++ (WW 432 hF lF kw (fun _ => 0) (fun _ => 0) (fun _ _ => 0)))) hD
  have hP : va_P (dC, dI) vwCl ([(kc5 (hO 0) (.ref (hM 0)) (.ref (hQ 0)) (.int 0) (.int 0) (.int 0) (.int (-1)) (.ref q23) (.ref q31) (.ref q38) (.ref q46) (.ref q54) (.ref q62) (.ref r70) (.ref r78) (.ref q85) (.ref r98) (.ref q105) (.ref q116) (.ref r128)), (kr0 q23 kI 64), (kl0 q31 kw 24), (kl0 q38 kw 3), (kr0 q46 kI 8), (kr0 q54 kI 8), (kr0 q62 kI 12), (r70, .inl (kb, 8, .inr (.inr (.inr (.inr (fun q => some (hF (406 + q)))))))), (r78, .inl (kb, 3, .inr (.inr (.inr (.inr (fun q => some (hF (414 + q)))))))), (r98, .inl (kb, 8, .inr (.inr (.inr (.inr (fun q => some (hF (418 + q)))))))), (r128, .inl (kb, 4, .inr (.inr (.inr (.inr (fun q => some (hF (428 + q))))))))] ++ (WQ hQ aQ (fun j => ([kb, kI, kI, kZ] : List ClassId).getD j kb) hF (fun _ => 0) (fun _ => 0) (fun _ => 0) 0 0 0 ++ (WW 432 hF lF kw (fun _ => 0) (fun _ => 0) (fun _ _ => 0)))) H := hP
  rw [hq3] at hP hD
  rw [hq5] at hP hD
  rw [hq6] at hP hD
  refine W.widen (k := 879) (n := 8021) (by omega) (by omega) ?_
  exact W.vret hx hb hr (fun t ht hW => ⟨⟨((fun j => ([q23, q31, q38, q46, q54, q62, r70, r78, r98, r128] : List Nat).getD j 0), hQ, aQ, hF, lF), rfl, trivial, by rw [ht]; exact hP, hD⟩, hS.F ht⟩) hS.2.2 dX5_init_139
end
section
theorem WO_k {hO : Nat → Nat} {aO : Nat → Nat} {hM : Nat → Nat} {hQ : Nat → Nat} {hw : Nat → Nat} {iO_answered : Int32} {iO_searched : Int32} {iO_searchedRelaxed : Int32} {iO_counted : Int32} {fO_countedCase : Nat → Int32} {gO_goalNumber : Nat → Int64} {gO_goalScale : Nat → Int64} {fO_start : Nat → Int32} {fO_column : Nat → Int32} {fO_chosen : Nat → Int32} {k k9 : Nat → ClassId} (h0 : k 0 = k9 0) (h1 : k 1 = k9 1) (h2 : k 2 = k9 2) (h3 : k 3 = k9 3) (h4 : k 4 = k9 4) (h5 : k 5 = k9 5) (h6 : k 6 = k9 6) (h7 : k 7 = k9 7) (h8 : k 8 = k9 8) (h9 : k 9 = k9 9) : WO hO aO k hM hQ hw iO_answered iO_searched iO_searchedRelaxed iO_counted fO_countedCase gO_goalNumber gO_goalScale fO_start fO_column fO_chosen = WO hO aO k9 hM hQ hw iO_answered iO_searched iO_searchedRelaxed iO_counted fO_countedCase gO_goalNumber gO_goalScale fO_start fO_column fO_chosen := by
  unfold WO
  rw [h0, h1, h2, h3, h4, h5, h6, h7, h8, h9]
theorem WQ_k {hQ : Nat → Nat} {aQ : Nat → Nat} {hw : Nat → Nat} {fQ_inside : Nat → Int32} {fQ_outside : Nat → Int32} {fQ_shut : Nat → Int32} {iQ_rows : Int32} {iQ_allRows : Int32} {iQ_columns : Int32} {k k9 : Nat → ClassId} (h0 : k 0 = k9 0) (h1 : k 1 = k9 1) (h2 : k 2 = k9 2) (h3 : k 3 = k9 3) : WQ hQ aQ k hw fQ_inside fQ_outside fQ_shut iQ_rows iQ_allRows iQ_columns = WQ hQ aQ k9 hw fQ_inside fQ_outside fQ_shut iQ_rows iQ_allRows iQ_columns := by
  unfold WQ
  rw [h0, h1, h2, h3]
theorem WG_k {hG : Nat → Nat} {aG : Nat → Nat} {hM : Nat → Nat} {hO : Nat → Nat} {hQ : Nat → Nat} {hw : Nat → Nat} {iG_made : Int32} {iG_keptNeeds : Int32} {fG_kept : Nat → Int32} {fG_need : Nat → Int32} {fG_turn : Nat → Int32} {iG_columns : Int32} {k k9 : Nat → ClassId} (h0 : k 0 = k9 0) (h1 : k 1 = k9 1) (h2 : k 2 = k9 2) (h3 : k 3 = k9 3) (h4 : k 4 = k9 4) : WG hG aG k hM hO hQ hw iG_made iG_keptNeeds fG_kept fG_need fG_turn iG_columns = WG hG aG k9 hM hO hQ hw iG_made iG_keptNeeds fG_kept fG_need fG_turn iG_columns := by
  unfold WG
  rw [h0, h1, h2, h3, h4]
set_option maxHeartbeats 4000000 in
set_option maxRecDepth 100000 in
/-- a solver, its tableau, its whole numbers -/
theorem k_X5_init (l : Launch) (dC : Nat → ClassId) (dI : Nat → Nat → Nat) (hO hM : Nat → Nat) (kO kQ : Nat → ClassId) (kw : ClassId) (sz : Nat) : Met l yX5_init wsKX5_init ({ frames := 4, cells := 879, slots := 8021, locals := 81 }) (va_Pc [.ref (hO 0), .ref (hM 0)] (fun U => U.heap.size = sz ∧ va_P (dC, dI) vwCl [(hO 0, .inr (5, [.null, .null, .int 0, .int 0, .int 0, .int 0, .null, .null, .null, .null, .null, .null, .null, .null, .null, .null, .null, .null, .null]))] U.heap ∧ va_K (dC, dI) vwCl (tO kO ++ (tQ kQ ++ (tW kw))) U ∧ va_D (fun _ => True) [(hO 0, .inr (5, [.null, .null, .int 0, .int 0, .int 0, .int 0, .null, .null, .null, .null, .null, .null, .null, .null, .null, .null, .null, .null, .null]))] ∧ CE (va_A [(hO 0, .inr (5, [.null, .null, .int 0, .int 0, .int 0, .int 0, .null, .null, .null, .null, .null, .null, .null, .null, .null, .null, .null, .null, .null]))] sz) U U.heap)) (va_Qv (fun _ : (Nat → Nat) × (Nat → Nat) × (Nat → Nat) × (Nat → Nat) × (Nat → Nat) => True) (fun u t => va_P (dC, dI) vwCl (WO hO u.1 kO hM u.2.1 u.2.2.2.1 0 0 0 (-1) (fun _ => 0) (fun _ => 0) (fun _ => 0) (fun _ => 0) (fun _ => 0) (fun _ => 0) ++ (WQ u.2.1 u.2.2.1 kQ u.2.2.2.1 (fun _ => 0) (fun _ => 0) (fun _ => 0) 0 0 0 ++ (WW 432 u.2.2.2.1 u.2.2.2.2 kw (fun _ => 0) (fun _ => 0) (fun _ _ => 0)))) t.heap ∧ va_D (va_A [(hO 0, .inr (5, [.null, .null, .int 0, .int 0, .int 0, .int 0, .null, .null, .null, .null, .null, .null, .null, .null, .null, .null, .null, .null, .null]))] sz) (WO hO u.1 kO hM u.2.1 u.2.2.2.1 0 0 0 (-1) (fun _ => 0) (fun _ => 0) (fun _ => 0) (fun _ => 0) (fun _ => 0) (fun _ => 0) ++ (WQ u.2.1 u.2.2.1 kQ u.2.2.2.1 (fun _ => 0) (fun _ => 0) (fun _ => 0) 0 0 0 ++ (WW 432 u.2.2.2.1 u.2.2.2.2 kw (fun _ => 0) (fun _ => 0) (fun _ _ => 0))))) (va_A [(hO 0, .inr (5, [.null, .null, .int 0, .int 0, .int 0, .int 0, .null, .null, .null, .null, .null, .null, .null, .null, .null, .null, .null, .null, .null]))] sz)) 879 8021 (va_A [(hO 0, .inr (5, [.null, .null, .int 0, .int 0, .int 0, .int 0, .null, .null, .null, .null, .null, .null, .null, .null, .null, .null, .null, .null, .null]))] sz) := by
  refine Met.ad (kl_X5_init l dC dI hO hM (kO 6) kw (kO 0) (kQ 3) sz) (fun _ h => h) ⟨Nat.le_refl _, Nat.le_refl _, Nat.le_refl _, Nat.le_refl _⟩ (Nat.le_refl _) (Nat.le_refl _) (fun a U h => ⟨h.1, h.2.1, h.2.2.1, h.2.2.2.1.sub [6, 14, 0, 13] rfl, h.2.2.2.2⟩) (fun a st o t hP0 hvm _ _ hQ => ?_) (fun _ h => h)
  obtain ⟨⟨⟨aO, hQ, aQ, hw, lw⟩, e1, _, hP1, hD1⟩, hF⟩ := hQ
  have hK0 := hP0.2.2.2.1
  dsimp only at hP1 hD1
  rw [WO_k (k := fun j => ([kO 0, kw, kw, kO 0, kO 0, kO 0, kO 6, kO 6, kO 6, kO 6] : List ClassId).getD j (kO 6)) (k9 := kO) rfl (va_K.cl2 hK0 hK0 (i := 14) (j := 1) rfl rfl) (va_K.cl2 hK0 hK0 (i := 14) (j := 2) rfl rfl) (va_K.cl2 hK0 hK0 (i := 0) (j := 3) rfl rfl) (va_K.cl2 hK0 hK0 (i := 0) (j := 4) rfl rfl) (va_K.cl2 hK0 hK0 (i := 0) (j := 5) rfl rfl) rfl (va_K.cl2 hK0 hK0 (i := 6) (j := 7) rfl rfl) (va_K.cl2 hK0 hK0 (i := 6) (j := 8) rfl rfl) (va_K.cl2 hK0 hK0 (i := 6) (j := 9) rfl rfl), WQ_k (k := fun j => ([kO 6, kO 0, kO 0, kQ 3] : List ClassId).getD j (kO 6)) (k9 := kQ) (va_K.cl2 hK0 hK0 (i := 6) (j := 10) rfl rfl) (va_K.cl2 hK0 hK0 (i := 0) (j := 11) rfl rfl) (va_K.cl2 hK0 hK0 (i := 0) (j := 12) rfl rfl) rfl] at hP1 hD1
  exact ⟨⟨(aO, hQ, aQ, hw, lw), e1, trivial, hP1, hD1⟩, hF⟩
end
section
/-! parts as they are made: small facts -/
theorem TbO.zero : TbO 0 0 0 := ⟨by decide, by decide, by decide⟩
theorem WW_apG {n a b : Nat} (hn : n = a) {h1 l1 h2 l2 : Nat → Nat} {kw : ClassId} {wl wb : Nat → Int32} {wG : Nat → Nat → Int64} {T : va_W} : List.Perm (WW n h1 l1 kw wl wb wG ++ (WW b h2 l2 kw (fun _ => 0) (fun _ => 0) (fun _ _ => 0) ++ T)) (WW (a + b) (jn a h1 h2) (jn a l1 l2) kw (jn a wl (fun _ => 0)) (jn a wb (fun _ => 0)) (jn a wG (fun _ _ => 0)) ++ T) := by
  subst hn
  rw [← List.append_assoc]
  refine List.Perm.append_right _ ?_
  unfold WW
  rw [List.range_add, List.map_append, List.map_append, List.map_map, List.map_map]
  have e1 : (List.range n).map (fun w => ((jn n h1 h2 w, .inr (8, [.ref (jn n l1 l2 w), .int (jn n wl (fun _ => 0) w), .int (jn n wb (fun _ => 0) w)])) : Nat × va_E)) = (List.range n).map (fun w => ((h1 w, .inr (8, [.ref (l1 w), .int (wl w), .int (wb w)])) : Nat × va_E)) := List.map_congr_left (fun w hw => by rw [jn_l (List.mem_range.mp hw), jn_l (List.mem_range.mp hw), jn_l (List.mem_range.mp hw), jn_l (List.mem_range.mp hw)])
  have e2 : (List.range n).map (fun w => ((jn n l1 l2 w, .inl (kw, 14, .inr (.inl (jn n wG (fun _ _ => 0) w)))) : Nat × va_E)) = (List.range n).map (fun w => ((l1 w, .inl (kw, 14, .inr (.inl (wG w)))) : Nat × va_E)) := List.map_congr_left (fun w hw => by rw [jn_l (List.mem_range.mp hw), jn_l (List.mem_range.mp hw)])
  have e3 : (List.range b).map ((fun w => ((jn n h1 h2 w, .inr (8, [.ref (jn n l1 l2 w), .int (jn n wl (fun _ => 0) w), .int (jn n wb (fun _ => 0) w)])) : Nat × va_E)) ∘ (fun x => n + x)) = (List.range b).map (fun w => ((h2 w, .inr (8, [.ref (l2 w), .int 0, .int 0])) : Nat × va_E)) := List.map_congr_left (fun w _ => by rw [Function.comp_apply, jn_r, jn_r, jn_r, jn_r])
  have e4 : (List.range b).map ((fun w => ((jn n l1 l2 w, .inl (kw, 14, .inr (.inl (jn n wG (fun _ _ => 0) w)))) : Nat × va_E)) ∘ (fun x => n + x)) = (List.range b).map (fun w => ((l2 w, .inl (kw, 14, .inr (.inl (fun _ => 0)))) : Nat × va_E)) := List.map_congr_left (fun w _ => by rw [Function.comp_apply, jn_r, jn_r])
  rw [e1, e2, e3, e4, List.append_assoc, List.append_assoc]
  exact List.Perm.append_left _ (List.perm_append_comm_assoc _ _ _)
theorem jn_rng {f : Nat → Int32} {n : Nat} {lo hi : Int} (h : ∀ q : Nat, lo ≤ (f q).toInt ∧ (f q).toInt ≤ hi) (h1 : lo ≤ 0) (h2 : 0 ≤ hi) : ∀ q : Nat, lo ≤ (jn n f (fun _ => 0) q).toInt ∧ (jn n f (fun _ => 0) q).toInt ≤ hi := fun q => by
  unfold jn
  by_cases e : q < n
  · rw [if_pos e]; exact h q
  · rw [if_neg e]; exact ⟨h1, h2⟩
theorem OQ_cg {D : va_G} {cl : List vw_C} {hO aO hM hQ aQ : Nat → Nat} {kO kQ : Nat → ClassId} {hw hw' : Nat → Nat} {i1 i2 i3 i4 j1 j2 j3 : Int32} {f1 f4 f5 f6 e1 e2 e3 : Nat → Int32} {g2 g3 : Nat → Int64} {Y : va_W} {H : Heap} (h : ∀ j, j < 432 → hw j = hw' j) (hP : va_P D cl (WO hO aO kO hM hQ hw i1 i2 i3 i4 f1 g2 g3 f4 f5 f6 ++ (WQ hQ aQ kQ hw e1 e2 e3 j1 j2 j3 ++ Y)) H) : va_P D cl (WO hO aO kO hM hQ hw' i1 i2 i3 i4 f1 g2 g3 f4 f5 f6 ++ (WQ hQ aQ kQ hw' e1 e2 e3 j1 j2 j3 ++ Y)) H :=
  WQ_cg (X := WO hO aO kO hM hQ hw' i1 i2 i3 i4 f1 g2 g3 f4 f5 f6) (fun j hj => h j (by omega)) (WO_cg (X := []) h hP)
theorem OQ_cd {A : Nat → Prop} {hO aO hM hQ aQ : Nat → Nat} {kO kQ : Nat → ClassId} {hw hw' : Nat → Nat} {i1 i2 i3 i4 j1 j2 j3 : Int32} {f1 f4 f5 f6 e1 e2 e3 : Nat → Int32} {g2 g3 : Nat → Int64} {Y : va_W} (hD : va_D A (WO hO aO kO hM hQ hw i1 i2 i3 i4 f1 g2 g3 f4 f5 f6 ++ (WQ hQ aQ kQ hw e1 e2 e3 j1 j2 j3 ++ Y))) : va_D A (WO hO aO kO hM hQ hw' i1 i2 i3 i4 f1 g2 g3 f4 f5 f6 ++ (WQ hQ aQ kQ hw' e1 e2 e3 j1 j2 j3 ++ Y)) := fst_D hD rfl
end
section
theorem kj_X3_init (a0 a1 a2 a3 a4 a5 a6 a7 a8 : va_W) : List.Perm (a0 ++ (a1 ++ (a2 ++ (a3 ++ (a4 ++ (a5 ++ (a6 ++ (a7 ++ (a8))))))))) (a8 ++ (a7 ++ (a6 ++ (a5 ++ (a4 ++ (a3 ++ (a2 ++ (a1 ++ (a0))))))))) := (((((((((List.Perm.refl _).trans (List.perm_append_comm_assoc _ _ _)).trans ((List.Perm.append_left _ (List.perm_append_comm_assoc _ _ _)).trans (List.perm_append_comm_assoc _ _ _))).trans ((List.Perm.append_left _ ((List.Perm.append_left _ (List.perm_append_comm_assoc _ _ _)).trans (List.perm_append_comm_assoc _ _ _))).trans (List.perm_append_comm_assoc _ _ _))).trans ((List.Perm.append_left _ ((List.Perm.append_left _ ((List.Perm.append_left _ (List.perm_append_comm_assoc _ _ _)).trans (List.perm_append_comm_assoc _ _ _))).trans (List.perm_append_comm_assoc _ _ _))).trans (List.perm_append_comm_assoc _ _ _))).trans ((List.Perm.append_left _ ((List.Perm.append_left _ ((List.Perm.append_left _ ((List.Perm.append_left _ (List.perm_append_comm_assoc _ _ _)).trans (List.perm_append_comm_assoc _ _ _))).trans (List.perm_append_comm_assoc _ _ _))).trans (List.perm_append_comm_assoc _ _ _))).trans (List.perm_append_comm_assoc _ _ _))).trans ((List.Perm.append_left _ ((List.Perm.append_left _ ((List.Perm.append_left _ ((List.Perm.append_left _ ((List.Perm.append_left _ (List.perm_append_comm_assoc _ _ _)).trans (List.perm_append_comm_assoc _ _ _))).trans (List.perm_append_comm_assoc _ _ _))).trans (List.perm_append_comm_assoc _ _ _))).trans (List.perm_append_comm_assoc _ _ _))).trans (List.perm_append_comm_assoc _ _ _))).trans ((List.Perm.append_left _ ((List.Perm.append_left _ ((List.Perm.append_left _ ((List.Perm.append_left _ ((List.Perm.append_left _ ((List.Perm.append_left _ (List.perm_append_comm_assoc _ _ _)).trans (List.perm_append_comm_assoc _ _ _))).trans (List.perm_append_comm_assoc _ _ _))).trans (List.perm_append_comm_assoc _ _ _))).trans (List.perm_append_comm_assoc _ _ _))).trans (List.perm_append_comm_assoc _ _ _))).trans (List.perm_append_comm_assoc _ _ _))).trans ((List.Perm.append_left _ ((List.Perm.append_left _ ((List.Perm.append_left _ ((List.Perm.append_left _ ((List.Perm.append_left _ ((List.Perm.append_left _ ((List.Perm.append_left _ (List.perm_append_comm)).trans (List.perm_append_comm_assoc _ _ _))).trans (List.perm_append_comm_assoc _ _ _))).trans (List.perm_append_comm_assoc _ _ _))).trans (List.perm_append_comm_assoc _ _ _))).trans (List.perm_append_comm_assoc _ _ _))).trans (List.perm_append_comm_assoc _ _ _))).trans (List.perm_append_comm_assoc _ _ _)))
theorem dX3_init_0 : decode cX3_init 0 = .ok (.aload_n 0, 1) := dk_42 (by decide +kernel)
theorem dX3_init_1 : decode cX3_init 1 = .ok (.invokespecial 5, 3) := dk_183 (by decide +kernel)
theorem dX3_init_4 : decode cX3_init 4 = .ok (.aload_n 0, 1) := dk_42 (by decide +kernel)
theorem dX3_init_5 : decode cX3_init 5 = .ok (.bipush 28, 2) := dk_16 (by decide +kernel)
theorem dX3_init_7 : decode cX3_init 7 = .ok (.newarray .boolean, 2) := by decide +kernel
theorem dX3_init_9 : decode cX3_init 9 = .ok (.putfield 11, 3) := dk_181 (by decide +kernel)
theorem dX3_init_12 : decode cX3_init 12 = .ok (.aload_n 0, 1) := dk_42 (by decide +kernel)
theorem dX3_init_13 : decode cX3_init 13 = .ok (.bipush 28, 2) := dk_16 (by decide +kernel)
theorem dX3_init_15 : decode cX3_init 15 = .ok (.invokestatic 17, 3) := dk_184 (by decide +kernel)
theorem dX3_init_18 : decode cX3_init 18 = .ok (.putfield 23, 3) := dk_181 (by decide +kernel)
theorem dX3_init_21 : decode cX3_init 21 = .ok (.aload_n 0, 1) := dk_42 (by decide +kernel)
theorem dX3_init_22 : decode cX3_init 22 = .ok (.new 27, 3) := dk_187 (by decide +kernel)
theorem dX3_init_25 : decode cX3_init 25 = .ok (.dup, 1) := dk_89 (by decide +kernel)
theorem dX3_init_26 : decode cX3_init 26 = .ok (.invokespecial 29, 3) := dk_183 (by decide +kernel)
theorem dX3_init_29 : decode cX3_init 29 = .ok (.putfield 30, 3) := dk_181 (by decide +kernel)
theorem dX3_init_32 : decode cX3_init 32 = .ok (.aload_n 0, 1) := dk_42 (by decide +kernel)
theorem dX3_init_33 : decode cX3_init 33 = .ok (.new 27, 3) := dk_187 (by decide +kernel)
theorem dX3_init_36 : decode cX3_init 36 = .ok (.dup, 1) := dk_89 (by decide +kernel)
theorem dX3_init_37 : decode cX3_init 37 = .ok (.invokespecial 29, 3) := dk_183 (by decide +kernel)
theorem dX3_init_40 : decode cX3_init 40 = .ok (.putfield 34, 3) := dk_181 (by decide +kernel)
theorem dX3_init_43 : decode cX3_init 43 = .ok (.aload_n 0, 1) := dk_42 (by decide +kernel)
theorem dX3_init_44 : decode cX3_init 44 = .ok (.new 27, 3) := dk_187 (by decide +kernel)
theorem dX3_init_47 : decode cX3_init 47 = .ok (.dup, 1) := dk_89 (by decide +kernel)
theorem dX3_init_48 : decode cX3_init 48 = .ok (.invokespecial 29, 3) := dk_183 (by decide +kernel)
theorem dX3_init_51 : decode cX3_init 51 = .ok (.putfield 37, 3) := dk_181 (by decide +kernel)
theorem dX3_init_54 : decode cX3_init 54 = .ok (.aload_n 0, 1) := dk_42 (by decide +kernel)
theorem dX3_init_55 : decode cX3_init 55 = .ok (.bipush 8, 2) := dk_16 (by decide +kernel)
theorem dX3_init_57 : decode cX3_init 57 = .ok (.invokestatic 17, 3) := dk_184 (by decide +kernel)
theorem dX3_init_60 : decode cX3_init 60 = .ok (.putfield 40, 3) := dk_181 (by decide +kernel)
theorem dX3_init_63 : decode cX3_init 63 = .ok (.aload_n 0, 1) := dk_42 (by decide +kernel)
theorem dX3_init_64 : decode cX3_init 64 = .ok (.new 27, 3) := dk_187 (by decide +kernel)
theorem dX3_init_67 : decode cX3_init 67 = .ok (.dup, 1) := dk_89 (by decide +kernel)
theorem dX3_init_68 : decode cX3_init 68 = .ok (.invokespecial 29, 3) := dk_183 (by decide +kernel)
theorem dX3_init_71 : decode cX3_init 71 = .ok (.putfield 43, 3) := dk_181 (by decide +kernel)
theorem dX3_init_74 : decode cX3_init 74 = .ok (.aload_n 0, 1) := dk_42 (by decide +kernel)
theorem dX3_init_75 : decode cX3_init 75 = .ok (.new 27, 3) := dk_187 (by decide +kernel)
theorem dX3_init_78 : decode cX3_init 78 = .ok (.dup, 1) := dk_89 (by decide +kernel)
theorem dX3_init_79 : decode cX3_init 79 = .ok (.invokespecial 29, 3) := dk_183 (by decide +kernel)
theorem dX3_init_82 : decode cX3_init 82 = .ok (.putfield 46, 3) := dk_181 (by decide +kernel)
theorem dX3_init_85 : decode cX3_init 85 = .ok (.aload_n 0, 1) := dk_42 (by decide +kernel)
theorem dX3_init_86 : decode cX3_init 86 = .ok (.new 27, 3) := dk_187 (by decide +kernel)
theorem dX3_init_89 : decode cX3_init 89 = .ok (.dup, 1) := dk_89 (by decide +kernel)
theorem dX3_init_90 : decode cX3_init 90 = .ok (.invokespecial 29, 3) := dk_183 (by decide +kernel)
theorem dX3_init_93 : decode cX3_init 93 = .ok (.putfield 49, 3) := dk_181 (by decide +kernel)
theorem dX3_init_96 : decode cX3_init 96 = .ok (.aload_n 0, 1) := dk_42 (by decide +kernel)
theorem dX3_init_97 : decode cX3_init 97 = .ok (.bipush 40, 2) := dk_16 (by decide +kernel)
theorem dX3_init_99 : decode cX3_init 99 = .ok (.newarray .int, 2) := by decide +kernel
theorem dX3_init_101 : decode cX3_init 101 = .ok (.putfield 52, 3) := dk_181 (by decide +kernel)
theorem dX3_init_104 : decode cX3_init 104 = .ok (.aload_n 0, 1) := dk_42 (by decide +kernel)
theorem dX3_init_105 : decode cX3_init 105 = .ok (.bipush 40, 2) := dk_16 (by decide +kernel)
theorem dX3_init_107 : decode cX3_init 107 = .ok (.newarray .int, 2) := by decide +kernel
theorem dX3_init_109 : decode cX3_init 109 = .ok (.putfield 56, 3) := dk_181 (by decide +kernel)
theorem dX3_init_112 : decode cX3_init 112 = .ok (.aload_n 0, 1) := dk_42 (by decide +kernel)
theorem dX3_init_113 : decode cX3_init 113 = .ok (.aload_n 1, 1) := dk_43 (by decide +kernel)
theorem dX3_init_114 : decode cX3_init 114 = .ok (.putfield 59, 3) := dk_181 (by decide +kernel)
theorem dX3_init_117 : decode cX3_init 117 = .ok (.aload_n 0, 1) := dk_42 (by decide +kernel)
theorem dX3_init_118 : decode cX3_init 118 = .ok (.aload_n 2, 1) := dk_44 (by decide +kernel)
theorem dX3_init_119 : decode cX3_init 119 = .ok (.putfield 63, 3) := dk_181 (by decide +kernel)
theorem dX3_init_122 : decode cX3_init 122 = .ok (.aload_n 0, 1) := dk_42 (by decide +kernel)
theorem dX3_init_123 : decode cX3_init 123 = .ok (.aload_n 2, 1) := dk_44 (by decide +kernel)
theorem dX3_init_124 : decode cX3_init 124 = .ok (.getfield 67, 3) := dk_180 (by decide +kernel)
theorem dX3_init_127 : decode cX3_init 127 = .ok (.putfield 71, 3) := dk_181 (by decide +kernel)
theorem dX3_init_130 : decode cX3_init 130 = .ok (.return_, 1) := dk_177 (by decide +kernel)
def wsKX3_init : List Cond := .code yX3_init cX3_init 3 none :: ([.methodLink RX3 5 objectInit, .instanceMethod objectInit, .code objectInit ⟨#[0xb1]⟩ 1 none, .arrayClass .boolean, .fieldLink RX3 11 "OptimaWorks$Prover" "kept" "[Z", .fieldLink RX3 23 "OptimaWorks$Prover" "multiplier" "[LOptimaWorks$Whole;", .classLink RX3 27 RX8, .instantiable RX8 3, .initialized RX8, .instanceMethod yX8_init, .fieldLink RX3 30 "OptimaWorks$Prover" "multiplierUnder" "LOptimaWorks$Whole;", .fieldLink RX3 34 "OptimaWorks$Prover" "proved" "LOptimaWorks$Whole;", .fieldLink RX3 37 "OptimaWorks$Prover" "provedUnder" "LOptimaWorks$Whole;", .fieldLink RX3 40 "OptimaWorks$Prover" "place" "[LOptimaWorks$Whole;", .fieldLink RX3 43 "OptimaWorks$Prover" "shortfall" "LOptimaWorks$Whole;", .fieldLink RX3 46 "OptimaWorks$Prover" "under" "LOptimaWorks$Whole;", .fieldLink RX3 49 "OptimaWorks$Prover" "leftOver" "LOptimaWorks$Whole;", .arrayClass .int, .fieldLink RX3 52 "OptimaWorks$Prover" "need" "[I", .fieldLink RX3 56 "OptimaWorks$Prover" "turn" "[I", .fieldLink RX3 59 "OptimaWorks$Prover" "model" "LOptimaWorks$Model;", .fieldLink RX3 63 "OptimaWorks$Prover" "solver" "LOptimaWorks$Solver;", .fieldLink RX3 67 "OptimaWorks$Solver" "tableau" "LOptimaWorks$Tableau;", .fieldLink RX3 71 "OptimaWorks$Prover" "tableau" "LOptimaWorks$Tableau;"] ++ wsX30 ++ wsX50 ++ wsX80 ++ (va_wsS RX3 17 yX5_wholes wsKX5_wholes) ++ (wsPX8_init))
theorem iwsKX3_init_in3 : ∀ w ∈ wsX30, w ∈ wsKX3_init := fun _ h => List.mem_cons_of_mem _ (List.mem_append_left _ (List.mem_append_left _ (List.mem_append_left _ (List.mem_append_left _ (List.mem_append_right _ h)))))
theorem iwsKX3_init_in5 : ∀ w ∈ wsX50, w ∈ wsKX3_init := fun _ h => List.mem_cons_of_mem _ (List.mem_append_left _ (List.mem_append_left _ (List.mem_append_left _ (List.mem_append_right _ h))))
theorem iwsKX3_init_in8 : ∀ w ∈ wsX80, w ∈ wsKX3_init := fun _ h => List.mem_cons_of_mem _ (List.mem_append_left _ (List.mem_append_left _ (List.mem_append_right _ h)))
theorem gwsKX3_init_0 : GoodIn wsKX3_init (va_wsS RX3 17 yX5_wholes wsKX5_wholes) := goodIn_sub (fun _ h => List.mem_cons_of_mem _ (List.mem_append_left _ (List.mem_append_right _ h))) (by decide +kernel)
theorem gwsKX3_init_1 : GoodIn wsKX3_init (wsPX8_init) := goodIn_sub (fun _ h => List.mem_cons_of_mem _ (List.mem_append_right _ h)) (by decide +kernel)
theorem hm_kl_X3_init_0 : (.classLink RX3 27 RX8 : Cond) ∈ wsKX3_init := by decide +kernel
theorem hm_kl_X3_init_1 : (.instantiable RX8 3 : Cond) ∈ wsKX3_init := by decide +kernel
theorem hm_kl_X3_init_2 : (.initialized RX8 : Cond) ∈ wsKX3_init := by decide +kernel
theorem hm_kl_X3_init_3 : (.instanceMethod yX8_init : Cond) ∈ wsKX3_init := by decide +kernel
theorem hm_kl_X3_init_4 : (.arrayClass .int : Cond) ∈ wsKX3_init := by decide +kernel
set_option maxHeartbeats 4000000 in
set_option maxRecDepth 100000 in
/-- a prover -/
theorem kl_X3_init (l : Launch) (dC : Nat → ClassId) (dI : Nat → Nat → Nat) (hG hM hO aO hQ hw : Nat → Nat) (kO : Nat → ClassId) (iO_answered : Int32) (iO_searched : Int32) (iO_searchedRelaxed : Int32) (iO_counted : Int32) (fO_countedCase : Nat → Int32) (gO_goalNumber : Nat → Int64) (gO_goalScale : Nat → Int64) (fO_start : Nat → Int32) (fO_column : Nat → Int32) (fO_chosen : Nat → Int32) (kb kw kI kZ : ClassId) (sz : Nat) : Met l yX3_init wsKX3_init ({ frames := 4, cells := 89, slots := 858, locals := 62 }) (va_Pc [.ref (hG 0), .ref (hM 0), .ref (hO 0)] (fun U => U.heap.size = sz ∧ va_P (dC, dI) vwCl ([(hG 0, .inr (3, [.null, .null, .null, .int 0, .int 0, .null, .null, .null, .null, .null, .null, .null, .null, .null, .null, .null, .int 0]))] ++ (WO hO aO kO hM hQ hw iO_answered iO_searched iO_searchedRelaxed iO_counted fO_countedCase gO_goalNumber gO_goalScale fO_start fO_column fO_chosen)) U.heap ∧ va_K (dC, dI) vwCl [(kb, .object "OptimaWorks$Whole"), (kw, .long), (kI, .int), (kZ, .boolean)] U ∧ va_D (fun _ => True) ([(hG 0, .inr (3, [.null, .null, .null, .int 0, .int 0, .null, .null, .null, .null, .null, .null, .null, .null, .null, .null, .null, .int 0]))] ++ (WO hO aO kO hM hQ hw iO_answered iO_searched iO_searchedRelaxed iO_counted fO_countedCase gO_goalNumber gO_goalScale fO_start fO_column fO_chosen)) ∧ CE (va_A ([(hG 0, .inr (3, [.null, .null, .null, .int 0, .int 0, .null, .null, .null, .null, .null, .null, .null, .null, .null, .null, .null, .int 0]))] ++ (WO hO aO kO hM hQ hw iO_answered iO_searched iO_searchedRelaxed iO_counted fO_countedCase gO_goalNumber gO_goalScale fO_start fO_column fO_chosen)) sz) U U.heap)) (va_Qv (fun (u : (Nat → Nat) × (Nat → Nat) × (Nat → Nat)) => True) (fun u t => va_P (dC, dI) vwCl (WG hG u.1 (fun j => ([kZ, kb, kb, kI, kI] : List ClassId).getD j kb) hM hO hQ (jn 432 hw u.2.1) 0 0 (fun _ => 0) (fun _ => 0) (fun _ => 0) 0 ++ (WO hO aO kO hM hQ hw iO_answered iO_searched iO_searchedRelaxed iO_counted fO_countedCase gO_goalNumber gO_goalScale fO_start fO_column fO_chosen ++ (WW 42 u.2.1 u.2.2 kw (fun _ => 0) (fun _ => 0) (fun _ _ => 0)))) t.heap ∧ va_D (va_A ([(hG 0, .inr (3, [.null, .null, .null, .int 0, .int 0, .null, .null, .null, .null, .null, .null, .null, .null, .null, .null, .null, .int 0]))] ++ (WO hO aO kO hM hQ hw iO_answered iO_searched iO_searchedRelaxed iO_counted fO_countedCase gO_goalNumber gO_goalScale fO_start fO_column fO_chosen)) sz) (WG hG u.1 (fun j => ([kZ, kb, kb, kI, kI] : List ClassId).getD j kb) hM hO hQ (jn 432 hw u.2.1) 0 0 (fun _ => 0) (fun _ => 0) (fun _ => 0) 0 ++ (WO hO aO kO hM hQ hw iO_answered iO_searched iO_searchedRelaxed iO_counted fO_countedCase gO_goalNumber gO_goalScale fO_start fO_column fO_chosen ++ (WW 42 u.2.1 u.2.2 kw (fun _ => 0) (fun _ => 0) (fun _ _ => 0))))) (va_A ([(hG 0, .inr (3, [.null, .null, .null, .int 0, .int 0, .null, .null, .null, .null, .null, .null, .null, .null, .null, .null, .null, .int 0]))] ++ (WO hO aO kO hM hQ hw iO_answered iO_searched iO_searchedRelaxed iO_counted fO_countedCase gO_goalNumber gO_goalScale fO_start fO_column fO_chosen)) sz)) 89 858 (va_A ([(hG 0, .inr (3, [.null, .null, .null, .int 0, .int 0, .null, .null, .null, .null, .null, .null, .null, .null, .null, .null, .null, .int 0]))] ++ (WO hO aO kO hM hQ hw iO_answered iO_searched iO_searchedRelaxed iO_counted fO_countedCase gO_goalNumber gO_goalScale fO_start fO_column fO_chosen)) sz) := by
  refine Met.ofW (cc := cX3_init) (maxL := 3) (ret := none) (by decide) rfl ?_
  intro p e s m args below meth c s₁ B hml hv
  obtain ⟨rfl, hsz, hP, hK, hD0, hE⟩ := hv
  have hx := B.exec
  have hb := B.bytes
  have hr := B.returns
  have hts := atoms_spec (ws := wsKX3_init) B.pre
  have hown : s.vm.findClass RX3 = some m.cls := findClass_of_methodNamed B.named
  have hin : meth.name = "<init>" := (name_of_methodNamed B.named B.method).1
  subst hsz
  have hD := hD0.self (sz := s.heap.size)
  generalize hAe : va_A ([(hG 0, .inr (3, [.null, .null, .null, .int 0, .int 0, .null, .null, .null, .null, .null, .null, .null, .null, .null, .null, .null, .int 0]))] ++ (WO hO aO kO hM hQ hw iO_answered iO_searched iO_searchedRelaxed iO_counted fO_countedCase gO_goalNumber gO_goalScale fO_start fO_column fO_chosen)) s.heap.size = A at hD hE ⊢
  have hA : ∀ q : Nat, s.heap.size ≤ q → A q := fun q h => by rw [← hAe]; exact Or.inr h
  have hS : va_S A s.heap s.heap [] := va_S.rf
  have hl := lv_entry ([.ref (hG 0), .ref (hM 0), .ref (hO 0)]) (n := 3) (Nat.le_of_ble_eq_true rfl)
  rw [lg_entry_eq]
  generalize (lg_sl ([.ref (hG 0), .ref (hM 0), .ref (hO 0)]) ++ List.replicate (3 - (lg_sl ([.ref (hG 0), .ref (hM 0), .ref (hO 0)])).length) Slot.unset).toArray = ls at hl ⊢
  have hl : lv_has ls 3 [(0, .ref (hG 0)), (1, .ref (hM 0)), (2, .ref (hO 0))] := hl
  refine lv_aload_n hx hb dX3_init_0 rfl (lv_at hl 0 rfl) ?_
  refine W.objInit hx hb hown (hts (.methodLink RX3 5 objectInit) (by decide +kernel)) (hts (.instanceMethod objectInit) (by decide +kernel)) (hts (.code objectInit ⟨#[0xb1]⟩ 1 none) (by decide +kernel)) rfl (by rw [hml]; exact hl.1) rfl dX3_init_1 (by decide +kernel) (Nat.le_of_ble_eq_true rfl) ?_
  refine W.eq (g2 := F0 m 4 ls []) rfl ?_
  refine lv_aload_n hx hb dX3_init_4 rfl (lv_at hl 0 rfl) ?_
  refine lv_bipush (v := 28) hx hb dX3_init_5 (by decide) ?_
  refine va_newa (atype := .boolean) (ty := .boolean) (N' := 28) (a0 := (28, .inl (fun _ => 0))) hx hb (hts (.arrayClass .boolean) (by decide +kernel)) rfl hK hP hD hS hA (fun _ => rfl) (by decide) (by decide) (by decide +kernel) (by first | decide +kernel | (dsimp only [headSpec] <;> omega)) (by first | decide +kernel | (dsimp only [headSpec] <;> omega)) dX3_init_7 (fun q7 cA H hKn hP hD hS => ?_)
  obtain rfl : kZ = cA := (va_K.cl2 hKn hK (i := 4) (j := 3) rfl rfl).symm
  clear hKn
  have hP := hP.mem (fun q h => (perm_mid (a := [(kc3 (hG 0) .null .null .null (.int 0) (.int 0) .null .null .null .null .null .null .null .null .null .null .null (.int 0))]) (t := WO hO aO kO hM hQ hw iO_answered iO_searched iO_searchedRelaxed iO_counted fO_countedCase gO_goalNumber gO_goalScale fO_start fO_column fO_chosen) (x := (kr0 q7 kZ 28))).mem_iff.mpr h)
  have hD := hD.perm (perm_mid (a := [(kc3 (hG 0) .null .null .null (.int 0) (.int 0) .null .null .null .null .null .null .null .null .null .null .null (.int 0))]) (t := WO hO aO kO hM hQ hw iO_answered iO_searched iO_searchedRelaxed iO_counted fO_countedCase gO_goalNumber gO_goalScale fO_start fO_column fO_chosen) (x := (kr0 q7 kZ 28)))
  have hP : va_P (dC, dI) vwCl ([(kc3 (hG 0) .null .null .null (.int 0) (.int 0) .null .null .null .null .null .null .null .null .null .null .null (.int 0)), (kr0 q7 kZ 28)] ++ (WO hO aO kO hM hQ hw iO_answered iO_searched iO_searchedRelaxed iO_counted fO_countedCase gO_goalNumber gO_goalScale fO_start fO_column fO_chosen)) H := hP
  have hD := fz_sd hP (hD) rfl
  refine W.widen (k := 1) (n := 28) (by omega) (by omega) ?_
  refine va_putF (D := (dC, dI)) (ci := 3) (v := .ref q7) (ty := .array .boolean) (C := RX3) (T := TX3) (N := 17) hx hb hts iwsKX3_init_in3 tyX3 tyX3_ok nmX3 hown hK hP hD hS 0 rfl rfl 5 (by decide) (hts (.fieldLink RX3 11 "OptimaWorks$Prover" "kept" "[Z") (by decide +kernel)) (fun _ h9 => h9) rfl hin rfl (by decide +kernel) rfl rfl (Nat.le_of_ble_eq_true rfl) dX3_init_9 (fun H locs hP hD hS => ?_)
  have hP : va_P (dC, dI) vwCl ([(kc3 (hG 0) .null .null .null (.int 0) (.int 0) (.ref q7) .null .null .null .null .null .null .null .null .null .null (.int 0)), (kr0 q7 kZ 28)] ++ (WO hO aO kO hM hQ hw iO_answered iO_searched iO_searchedRelaxed iO_counted fO_countedCase gO_goalNumber gO_goalScale fO_start fO_column fO_chosen)) H := hP
  have hD := fz_sd hP (hD) rfl
  refine lv_aload_n hx hb dX3_init_12 rfl (lv_at hl 0 rfl) ?_
  refine lv_bipush (v := 28) hx hb dX3_init_13 (by decide) ?_
  have hFc := noneFree hS hA
  have hPc := (nilP : va_P (dC, dI) vwCl [] H)
  have hDc := (nilD : va_D A [])
  have hKc : va_K (dC, dI) vwCl ([(kb, .object "OptimaWorks$Whole"), (kw, .long)]) _ := hK.sub [0, 1] rfl
  refine va_callr (va_runS (As := [.int 28]) (rest := [.ref (hG 0)]) ⟨hx, hb, hml, hown, hts⟩ (k_X5_wholes l dC dI kb kw 28 28 (by decide) (by decide) H.size) (va_cwS 1 hts gwsKX3_init_0 rfl rfl rfl (by decide +kernel) ⟨by first | decide +kernel | (dsimp only [headSpec] <;> omega), by first | decide +kernel | (dsimp only [headSpec] <;> omega)⟩) ⟨fun a U g mk q => by obtain ⟨q0, q1, qP, qK, qD, qE⟩ := q; exact ⟨q0, q1, qP, va_K.moved (u := U) (U := U.calling g mk a) (Vm.Alike.refl U.vm) qK, qD, qE.call⟩, fun U hU hW => ⟨rfl, by rw [hU], by rw [hU]; exact hPc, va_K.moved hW.alike hKc, hDc.weaken (fun _ _ _ _ => trivial), by rw [hU]; exact (((hE : CE A s s.heap).kept hS.2.1).narrow (fun q h => hFc q h)).warm hW⟩⟩ rfl rfl hl.1 rfl (lv_room (Nat.le_of_ble_eq_true rfl)) dX3_init_15 ⟨by first | decide +kernel | (dsimp only [headSpec] <;> omega), by first | decide +kernel | (dsimp only [headSpec] <;> omega)⟩) hS (fun q _ h => hFc q h) hFc (fun u r15 t H1 locs ht hvm hw9 hB hz1 hk1 hS => ?_)
  obtain ⟨h15, l15⟩ := u
  obtain ⟨hP1, hD1⟩ := hB
  dsimp only at hP1 hD1
  rw [ht] at hP1
  have p8 : List.Perm (α := Nat × va_E) (([(kc3 (hG 0) .null .null .null (.int 0) (.int 0) (.ref q7) .null .null .null .null .null .null .null .null .null .null (.int 0)), (kr0 q7 kZ 28)] ++ [(kq0 r15 kb 28 (fW 28 h15))]) ++ (WW 28 h15 l15 kw (fun _ => 0) (fun _ => 0) (fun _ _ => 0) ++ (WO hO aO kO hM hQ hw iO_answered iO_searched iO_searchedRelaxed iO_counted fO_countedCase gO_goalNumber gO_goalScale fO_start fO_column fO_chosen))) (([(kq0 r15 kb 28 (fW 28 h15))] ++ WW 28 h15 l15 kw (fun _ => 0) (fun _ => 0) (fun _ _ => 0)) ++ ([(kc3 (hG 0) .null .null .null (.int 0) (.int 0) (.ref q7) .null .null .null .null .null .null .null .null .null .null (.int 0)), (kr0 q7 kZ 28)] ++ (WO hO aO kO hM hQ hw iO_answered iO_searched iO_searchedRelaxed iO_counted fO_countedCase gO_goalNumber gO_goalScale fO_start fO_column fO_chosen))) := perm_in
  obtain ⟨hP, hD⟩ := frameG (ws := [(kc3 (hG 0) .null .null .null (.int 0) (.int 0) (.ref q7) .null .null .null .null .null .null .null .null .null .null (.int 0)), (kr0 q7 kZ 28)] ++ (WO hO aO kO hM hQ hw iO_answered iO_searched iO_searchedRelaxed iO_counted fO_countedCase gO_goalNumber gO_goalScale fO_start fO_column fO_chosen)) (ws' := ([(kc3 (hG 0) .null .null .null (.int 0) (.int 0) (.ref q7) .null .null .null .null .null .null .null .null .null .null (.int 0)), (kr0 q7 kZ 28)] ++ [(kq0 r15 kb 28 (fW 28 h15))]) ++ (WW 28 h15 l15 kw (fun _ => 0) (fun _ => 0) (fun _ _ => 0) ++ (WO hO aO kO hM hQ hw iO_answered iO_searched iO_searchedRelaxed iO_counted fO_countedCase gO_goalNumber gO_goalScale fO_start fO_column fO_chosen))) (X := []) (R := [(kc3 (hG 0) .null .null .null (.int 0) (.int 0) (.ref q7) .null .null .null .null .null .null .null .null .null .null (.int 0)), (kr0 q7 kZ 28)] ++ (WO hO aO kO hM hQ hw iO_answered iO_searched iO_searchedRelaxed iO_counted fO_countedCase gO_goalNumber gO_goalScale fO_start fO_column fO_chosen)) perm_nil p8 hP hD hk1 hFc hP1 hD1
  generalize H1 = H at hP hS ⊢
  clear p8 hPc hDc hKc hFc hP1 hD1 hk1 hz1 hw9
  obtain ⟨T9_0, eT9_0⟩ : ∃ t9 : va_W, t9 = WW 28 h15 l15 kw (fun _ => 0) (fun _ => 0) (fun _ _ => 0) ++ (WO hO aO kO hM hQ hw iO_answered iO_searched iO_searchedRelaxed iO_counted fO_countedCase gO_goalNumber gO_goalScale fO_start fO_column fO_chosen) := ⟨_, rfl⟩
  have hP : va_P (dC, dI) vwCl ([(kc3 (hG 0) .null .null .null (.int 0) (.int 0) (.ref q7) .null .null .null .null .null .null .null .null .null .null (.int 0)), (kr0 q7 kZ 28), (kq0 r15 kb 28 (fW 28 h15))] ++ (T9_0)) H := by rw [eT9_0]; exact hP
  have hD : va_D A ([(kc3 (hG 0) .null .null .null (.int 0) (.int 0) (.ref q7) .null .null .null .null .null .null .null .null .null .null (.int 0)), (kr0 q7 kZ 28), (kq0 r15 kb 28 (fW 28 h15))] ++ (T9_0)) := by rw [eT9_0]; exact hD
  refine W.widen (k := 58) (n := 532) (by omega) (by omega) ?_
  refine va_putF (D := (dC, dI)) (ci := 3) (v := .ref r15) (ty := .array (.object "OptimaWorks$Whole")) (C := RX3) (T := TX3) (N := 17) hx hb hts iwsKX3_init_in3 tyX3 tyX3_ok nmX3 hown hK hP hD hS 0 rfl rfl 6 (by decide) (hts (.fieldLink RX3 23 "OptimaWorks$Prover" "multiplier" "[LOptimaWorks$Whole;") (by decide +kernel)) (fun _ h9 => h9) rfl hin rfl (by decide +kernel) rfl rfl (Nat.le_of_ble_eq_true rfl) dX3_init_18 (fun H locs hP hD hS => ?_)
  have hP : va_P (dC, dI) vwCl ([(kc3 (hG 0) .null .null .null (.int 0) (.int 0) (.ref q7) (.ref r15) .null .null .null .null .null .null .null .null .null (.int 0)), (kr0 q7 kZ 28), (kq0 r15 kb 28 (fW 28 h15))] ++ (T9_0)) H := hP
  have hD := fz_sd hP (hD) rfl
  refine lv_aload_n hx hb dX3_init_21 rfl (lv_at hl 0 rfl) ?_
  refine va_new (ci := 8) (fs := [.null, .int 0, .int 0]) (C := RX8) (T := TX8) (N := 3) hx hb hts iwsKX3_init_in8 tyX8 tyX8_ok hown (hts _ hm_kl_X3_init_0) (hts _ hm_kl_X3_init_1) (hts _ hm_kl_X3_init_2) hK hP hD hS hA rfl (by decide +kernel) (by first | decide +kernel | (dsimp only [headSpec] <;> omega)) (by first | decide +kernel | (dsimp only [headSpec] <;> omega)) dX3_init_22 (fun q22 H hP hD hS => ?_)
  refine lv_dup hx hb dX3_init_25 rfl ?_
  have p9 : List.Perm (α := Nat × va_E) (([(kc3 (hG 0) .null .null .null (.int 0) (.int 0) (.ref q7) (.ref r15) .null .null .null .null .null .null .null .null .null (.int 0)), (kr0 q7 kZ 28), (kq0 r15 kb 28 (fW 28 h15))] ++ (T9_0)) ++ [(q22, .inr (8, [.null, .int 0, .int 0]))]) ([(q22, .inr (8, [.null, .int 0, .int 0]))] ++ ([(kc3 (hG 0) .null .null .null (.int 0) (.int 0) (.ref q7) (.ref r15) .null .null .null .null .null .null .null .null .null (.int 0)), (kr0 q7 kZ 28), (kq0 r15 kb 28 (fW 28 h15))] ++ (T9_0))) := List.perm_append_comm
  have hPc := hP.mem (fun q h => p9.mem_iff.mpr (List.mem_append_left _ h))
  have hDc := (hD.perm p9).left
  have hKc : va_K (dC, dI) vwCl ([]) _ := hK.sub [] rfl
  have hFc := freeG p9 hD hS hA
  refine va_callv (va_runIN (As := []) (rest := [.ref q22, .ref (hG 0)]) ⟨hx, hb, hml, hown, hts⟩ (p_X8_init l dC dI q22 H.size) ⟨va_cnB 0 hts gwsKX3_init_1 rfl rfl rfl (hE.2.2.1.2.2.2.2.1 (.methodLinkNest RX3 29 yX8_init RX11) (by decide +kernel)) (hts _ hm_kl_X3_init_2) (by decide +kernel) ⟨by first | decide +kernel | (dsimp only [headSpec] <;> omega), by first | decide +kernel | (dsimp only [headSpec] <;> omega)⟩, rfl, (hts _ hm_kl_X3_init_3)⟩ ⟨fun a U g mk q => by obtain ⟨q0, q1, qP, qK, qD⟩ := q; exact ⟨q0, q1, qP, va_K.moved (u := U) (U := U.calling g mk a) (Vm.Alike.refl U.vm) qK, qD⟩, fun U hU hW => ⟨rfl, by rw [hU], by rw [hU]; exact hPc, va_K.moved hW.alike hKc, hDc.weaken (fun _ _ _ _ => trivial)⟩⟩ rfl rfl hl.1 rfl (lv_room (Nat.le_of_ble_eq_true rfl)) dX3_init_26 ⟨by first | decide +kernel | (dsimp only [headSpec] <;> omega), by first | decide +kernel | (dsimp only [headSpec] <;> omega)⟩) hS (fun q _ h => hFc q h) hFc (fun u t H1 locs ht hvm hw hB hz1 hk1 hS => ?_)
  obtain ⟨y22, k9⟩ := u
  obtain ⟨hP1, hK1, hD1⟩ := hB
  dsimp only at hP1 hK1 hD1
  rw [ht] at hP1
  have hK1 := va_K.moved hvm.symm hK1
  obtain rfl : kw = k9 := (va_K.cl2 hK1 hK (i := 0) (j := 1) rfl rfl).symm
  clear hK1 hw
  have p8 : List.Perm (α := Nat × va_E) ([(kc3 (hG 0) .null .null .null (.int 0) (.int 0) (.ref q7) (.ref r15) .null .null .null .null .null .null .null .null .null (.int 0)), (kr0 q7 kZ 28), (kq0 r15 kb 28 (fW 28 h15))] ++ ([(q22, .inr (8, [.ref y22, .int 0, .int 0])), (kl0 y22 kw 14)] ++ (T9_0))) ([(q22, .inr (8, [.ref y22, .int 0, .int 0])), (kl0 y22 kw 14)] ++ ([(kc3 (hG 0) .null .null .null (.int 0) (.int 0) (.ref q7) (.ref r15) .null .null .null .null .null .null .null .null .null (.int 0)), (kr0 q7 kZ 28), (kq0 r15 kb 28 (fW 28 h15))] ++ (T9_0))) := List.perm_append_comm_assoc _ _ _
  obtain ⟨hP, hD⟩ := frameG p9 p8 hP hD hk1 hFc hP1 hD1
  generalize H1 = H at hP hS ⊢
  clear p9 p8 hPc hDc hKc hFc hP1 hD1 hk1 hz1
  obtain ⟨T9_1, eT9_1⟩ : ∃ t9 : va_W, t9 = WW 1 (fun _ => q22) (fun _ => y22) kw (fun _ => 0) (fun _ => 0) (fun _ _ => 0) ++ (T9_0) := ⟨_, rfl⟩
  have hP : va_P (dC, dI) vwCl ([(kc3 (hG 0) .null .null .null (.int 0) (.int 0) (.ref q7) (.ref r15) .null .null .null .null .null .null .null .null .null (.int 0)), (kr0 q7 kZ 28), (kq0 r15 kb 28 (fW 28 h15))] ++ (T9_1)) H := by rw [eT9_1]; exact hP
  have hD : va_D A ([(kc3 (hG 0) .null .null .null (.int 0) (.int 0) (.ref q7) (.ref r15) .null .null .null .null .null .null .null .null .null (.int 0)), (kr0 q7 kZ 28), (kq0 r15 kb 28 (fW 28 h15))] ++ (T9_1)) := by rw [eT9_1]; exact hD
  refine W.widen (k := 60) (n := 549) (by omega) (by omega) ?_
  refine va_putF (D := (dC, dI)) (ci := 3) (v := .ref q22) (ty := .object "OptimaWorks$Whole") (C := RX3) (T := TX3) (N := 17) hx hb hts iwsKX3_init_in3 tyX3 tyX3_ok nmX3 hown hK hP hD hS 0 rfl rfl 7 (by decide) (hts (.fieldLink RX3 30 "OptimaWorks$Prover" "multiplierUnder" "LOptimaWorks$Whole;") (by decide +kernel)) (fun _ h9 => h9) rfl hin rfl (by decide +kernel) rfl rfl (Nat.le_of_ble_eq_true rfl) dX3_init_29 (fun H locs hP hD hS => ?_)
  have hP : va_P (dC, dI) vwCl ([(kc3 (hG 0) .null .null .null (.int 0) (.int 0) (.ref q7) (.ref r15) (.ref q22) .null .null .null .null .null .null .null .null (.int 0)), (kr0 q7 kZ 28), (kq0 r15 kb 28 (fW 28 h15))] ++ (T9_1)) H := hP
  have hD := fz_sd hP (hD) rfl
  refine lv_aload_n hx hb dX3_init_32 rfl (lv_at hl 0 rfl) ?_
  refine va_new (ci := 8) (fs := [.null, .int 0, .int 0]) (C := RX8) (T := TX8) (N := 3) hx hb hts iwsKX3_init_in8 tyX8 tyX8_ok hown (hts _ hm_kl_X3_init_0) (hts _ hm_kl_X3_init_1) (hts _ hm_kl_X3_init_2) hK hP hD hS hA rfl (by decide +kernel) (by first | decide +kernel | (dsimp only [headSpec] <;> omega)) (by first | decide +kernel | (dsimp only [headSpec] <;> omega)) dX3_init_33 (fun q33 H hP hD hS => ?_)
  refine lv_dup hx hb dX3_init_36 rfl ?_
  have p9 : List.Perm (α := Nat × va_E) (([(kc3 (hG 0) .null .null .null (.int 0) (.int 0) (.ref q7) (.ref r15) (.ref q22) .null .null .null .null .null .null .null .null (.int 0)), (kr0 q7 kZ 28), (kq0 r15 kb 28 (fW 28 h15))] ++ (T9_1)) ++ [(q33, .inr (8, [.null, .int 0, .int 0]))]) ([(q33, .inr (8, [.null, .int 0, .int 0]))] ++ ([(kc3 (hG 0) .null .null .null (.int 0) (.int 0) (.ref q7) (.ref r15) (.ref q22) .null .null .null .null .null .null .null .null (.int 0)), (kr0 q7 kZ 28), (kq0 r15 kb 28 (fW 28 h15))] ++ (T9_1))) := List.perm_append_comm
  have hPc := hP.mem (fun q h => p9.mem_iff.mpr (List.mem_append_left _ h))
  have hDc := (hD.perm p9).left
  have hKc : va_K (dC, dI) vwCl ([]) _ := hK.sub [] rfl
  have hFc := freeG p9 hD hS hA
  refine va_callv (va_runIN (As := []) (rest := [.ref q33, .ref (hG 0)]) ⟨hx, hb, hml, hown, hts⟩ (p_X8_init l dC dI q33 H.size) ⟨va_cnB 0 hts gwsKX3_init_1 rfl rfl rfl (hE.2.2.1.2.2.2.2.1 (.methodLinkNest RX3 29 yX8_init RX11) (by decide +kernel)) (hts _ hm_kl_X3_init_2) (by decide +kernel) ⟨by first | decide +kernel | (dsimp only [headSpec] <;> omega), by first | decide +kernel | (dsimp only [headSpec] <;> omega)⟩, rfl, (hts _ hm_kl_X3_init_3)⟩ ⟨fun a U g mk q => by obtain ⟨q0, q1, qP, qK, qD⟩ := q; exact ⟨q0, q1, qP, va_K.moved (u := U) (U := U.calling g mk a) (Vm.Alike.refl U.vm) qK, qD⟩, fun U hU hW => ⟨rfl, by rw [hU], by rw [hU]; exact hPc, va_K.moved hW.alike hKc, hDc.weaken (fun _ _ _ _ => trivial)⟩⟩ rfl rfl hl.1 rfl (lv_room (Nat.le_of_ble_eq_true rfl)) dX3_init_37 ⟨by first | decide +kernel | (dsimp only [headSpec] <;> omega), by first | decide +kernel | (dsimp only [headSpec] <;> omega)⟩) hS (fun q _ h => hFc q h) hFc (fun u t H1 locs ht hvm hw hB hz1 hk1 hS => ?_)
  obtain ⟨y33, k9⟩ := u
  obtain ⟨hP1, hK1, hD1⟩ := hB
  dsimp only at hP1 hK1 hD1
  rw [ht] at hP1
  have hK1 := va_K.moved hvm.symm hK1
  obtain rfl : kw = k9 := (va_K.cl2 hK1 hK (i := 0) (j := 1) rfl rfl).symm
  clear hK1 hw
  have p8 : List.Perm (α := Nat × va_E) ([(kc3 (hG 0) .null .null .null (.int 0) (.int 0) (.ref q7) (.ref r15) (.ref q22) .null .null .null .null .null .null .null .null (.int 0)), (kr0 q7 kZ 28), (kq0 r15 kb 28 (fW 28 h15))] ++ ([(q33, .inr (8, [.ref y33, .int 0, .int 0])), (kl0 y33 kw 14)] ++ (T9_1))) ([(q33, .inr (8, [.ref y33, .int 0, .int 0])), (kl0 y33 kw 14)] ++ ([(kc3 (hG 0) .null .null .null (.int 0) (.int 0) (.ref q7) (.ref r15) (.ref q22) .null .null .null .null .null .null .null .null (.int 0)), (kr0 q7 kZ 28), (kq0 r15 kb 28 (fW 28 h15))] ++ (T9_1))) := List.perm_append_comm_assoc _ _ _
  obtain ⟨hP, hD⟩ := frameG p9 p8 hP hD hk1 hFc hP1 hD1
  generalize H1 = H at hP hS ⊢
  clear p9 p8 hPc hDc hKc hFc hP1 hD1 hk1 hz1
  obtain ⟨T9_2, eT9_2⟩ : ∃ t9 : va_W, t9 = WW 1 (fun _ => q33) (fun _ => y33) kw (fun _ => 0) (fun _ => 0) (fun _ _ => 0) ++ (T9_1) := ⟨_, rfl⟩
  have hP : va_P (dC, dI) vwCl ([(kc3 (hG 0) .null .null .null (.int 0) (.int 0) (.ref q7) (.ref r15) (.ref q22) .null .null .null .null .null .null .null .null (.int 0)), (kr0 q7 kZ 28), (kq0 r15 kb 28 (fW 28 h15))] ++ (T9_2)) H := by rw [eT9_2]; exact hP
  have hD : va_D A ([(kc3 (hG 0) .null .null .null (.int 0) (.int 0) (.ref q7) (.ref r15) (.ref q22) .null .null .null .null .null .null .null .null (.int 0)), (kr0 q7 kZ 28), (kq0 r15 kb 28 (fW 28 h15))] ++ (T9_2)) := by rw [eT9_2]; exact hD
  refine W.widen (k := 62) (n := 566) (by omega) (by omega) ?_
  refine va_putF (D := (dC, dI)) (ci := 3) (v := .ref q33) (ty := .object "OptimaWorks$Whole") (C := RX3) (T := TX3) (N := 17) hx hb hts iwsKX3_init_in3 tyX3 tyX3_ok nmX3 hown hK hP hD hS 0 rfl rfl 8 (by decide) (hts (.fieldLink RX3 34 "OptimaWorks$Prover" "proved" "LOptimaWorks$Whole;") (by decide +kernel)) (fun _ h9 => h9) rfl hin rfl (by decide +kernel) rfl rfl (Nat.le_of_ble_eq_true rfl) dX3_init_40 (fun H locs hP hD hS => ?_)
  have hP : va_P (dC, dI) vwCl ([(kc3 (hG 0) .null .null .null (.int 0) (.int 0) (.ref q7) (.ref r15) (.ref q22) (.ref q33) .null .null .null .null .null .null .null (.int 0)), (kr0 q7 kZ 28), (kq0 r15 kb 28 (fW 28 h15))] ++ (T9_2)) H := hP
  have hD := fz_sd hP (hD) rfl
  refine lv_aload_n hx hb dX3_init_43 rfl (lv_at hl 0 rfl) ?_
  refine va_new (ci := 8) (fs := [.null, .int 0, .int 0]) (C := RX8) (T := TX8) (N := 3) hx hb hts iwsKX3_init_in8 tyX8 tyX8_ok hown (hts _ hm_kl_X3_init_0) (hts _ hm_kl_X3_init_1) (hts _ hm_kl_X3_init_2) hK hP hD hS hA rfl (by decide +kernel) (by first | decide +kernel | (dsimp only [headSpec] <;> omega)) (by first | decide +kernel | (dsimp only [headSpec] <;> omega)) dX3_init_44 (fun q44 H hP hD hS => ?_)
  refine lv_dup hx hb dX3_init_47 rfl ?_
  have p9 : List.Perm (α := Nat × va_E) (([(kc3 (hG 0) .null .null .null (.int 0) (.int 0) (.ref q7) (.ref r15) (.ref q22) (.ref q33) .null .null .null .null .null .null .null (.int 0)), (kr0 q7 kZ 28), (kq0 r15 kb 28 (fW 28 h15))] ++ (T9_2)) ++ [(q44, .inr (8, [.null, .int 0, .int 0]))]) ([(q44, .inr (8, [.null, .int 0, .int 0]))] ++ ([(kc3 (hG 0) .null .null .null (.int 0) (.int 0) (.ref q7) (.ref r15) (.ref q22) (.ref q33) .null .null .null .null .null .null .null (.int 0)), (kr0 q7 kZ 28), (kq0 r15 kb 28 (fW 28 h15))] ++ (T9_2))) := List.perm_append_comm
  have hPc := hP.mem (fun q h => p9.mem_iff.mpr (List.mem_append_left _ h))
  have hDc := (hD.perm p9).left
  have hKc : va_K (dC, dI) vwCl ([]) _ := hK.sub [] rfl
  have hFc := freeG p9 hD hS hA
  refine va_callv (va_runIN (As := []) (rest := [.ref q44, .ref (hG 0)]) ⟨hx, hb, hml, hown, hts⟩ (p_X8_init l dC dI q44 H.size) ⟨va_cnB 0 hts gwsKX3_init_1 rfl rfl rfl (hE.2.2.1.2.2.2.2.1 (.methodLinkNest RX3 29 yX8_init RX11) (by decide +kernel)) (hts _ hm_kl_X3_init_2) (by decide +kernel) ⟨by first | decide +kernel | (dsimp only [headSpec] <;> omega), by first | decide +kernel | (dsimp only [headSpec] <;> omega)⟩, rfl, (hts _ hm_kl_X3_init_3)⟩ ⟨fun a U g mk q => by obtain ⟨q0, q1, qP, qK, qD⟩ := q; exact ⟨q0, q1, qP, va_K.moved (u := U) (U := U.calling g mk a) (Vm.Alike.refl U.vm) qK, qD⟩, fun U hU hW => ⟨rfl, by rw [hU], by rw [hU]; exact hPc, va_K.moved hW.alike hKc, hDc.weaken (fun _ _ _ _ => trivial)⟩⟩ rfl rfl hl.1 rfl (lv_room (Nat.le_of_ble_eq_true rfl)) dX3_init_48 ⟨by first | decide +kernel | (dsimp only [headSpec] <;> omega), by first | decide +kernel | (dsimp only [headSpec] <;> omega)⟩) hS (fun q _ h => hFc q h) hFc (fun u t H1 locs ht hvm hw hB hz1 hk1 hS => ?_)
  obtain ⟨y44, k9⟩ := u
  obtain ⟨hP1, hK1, hD1⟩ := hB
  dsimp only at hP1 hK1 hD1
  rw [ht] at hP1
  have hK1 := va_K.moved hvm.symm hK1
  obtain rfl : kw = k9 := (va_K.cl2 hK1 hK (i := 0) (j := 1) rfl rfl).symm
  clear hK1 hw
  have p8 : List.Perm (α := Nat × va_E) ([(kc3 (hG 0) .null .null .null (.int 0) (.int 0) (.ref q7) (.ref r15) (.ref q22) (.ref q33) .null .null .null .null .null .null .null (.int 0)), (kr0 q7 kZ 28), (kq0 r15 kb 28 (fW 28 h15))] ++ ([(q44, .inr (8, [.ref y44, .int 0, .int 0])), (kl0 y44 kw 14)] ++ (T9_2))) ([(q44, .inr (8, [.ref y44, .int 0, .int 0])), (kl0 y44 kw 14)] ++ ([(kc3 (hG 0) .null .null .null (.int 0) (.int 0) (.ref q7) (.ref r15) (.ref q22) (.ref q33) .null .null .null .null .null .null .null (.int 0)), (kr0 q7 kZ 28), (kq0 r15 kb 28 (fW 28 h15))] ++ (T9_2))) := List.perm_append_comm_assoc _ _ _
  obtain ⟨hP, hD⟩ := frameG p9 p8 hP hD hk1 hFc hP1 hD1
  generalize H1 = H at hP hS ⊢
  clear p9 p8 hPc hDc hKc hFc hP1 hD1 hk1 hz1
  obtain ⟨T9_3, eT9_3⟩ : ∃ t9 : va_W, t9 = WW 1 (fun _ => q44) (fun _ => y44) kw (fun _ => 0) (fun _ => 0) (fun _ _ => 0) ++ (T9_2) := ⟨_, rfl⟩
  have hP : va_P (dC, dI) vwCl ([(kc3 (hG 0) .null .null .null (.int 0) (.int 0) (.ref q7) (.ref r15) (.ref q22) (.ref q33) .null .null .null .null .null .null .null (.int 0)), (kr0 q7 kZ 28), (kq0 r15 kb 28 (fW 28 h15))] ++ (T9_3)) H := by rw [eT9_3]; exact hP
  have hD : va_D A ([(kc3 (hG 0) .null .null .null (.int 0) (.int 0) (.ref q7) (.ref r15) (.ref q22) (.ref q33) .null .null .null .null .null .null .null (.int 0)), (kr0 q7 kZ 28), (kq0 r15 kb 28 (fW 28 h15))] ++ (T9_3)) := by rw [eT9_3]; exact hD
  refine W.widen (k := 64) (n := 583) (by omega) (by omega) ?_
  refine va_putF (D := (dC, dI)) (ci := 3) (v := .ref q44) (ty := .object "OptimaWorks$Whole") (C := RX3) (T := TX3) (N := 17) hx hb hts iwsKX3_init_in3 tyX3 tyX3_ok nmX3 hown hK hP hD hS 0 rfl rfl 9 (by decide) (hts (.fieldLink RX3 37 "OptimaWorks$Prover" "provedUnder" "LOptimaWorks$Whole;") (by decide +kernel)) (fun _ h9 => h9) rfl hin rfl (by decide +kernel) rfl rfl (Nat.le_of_ble_eq_true rfl) dX3_init_51 (fun H locs hP hD hS => ?_)
  have hP : va_P (dC, dI) vwCl ([(kc3 (hG 0) .null .null .null (.int 0) (.int 0) (.ref q7) (.ref r15) (.ref q22) (.ref q33) (.ref q44) .null .null .null .null .null .null (.int 0)), (kr0 q7 kZ 28), (kq0 r15 kb 28 (fW 28 h15))] ++ (T9_3)) H := hP
  have hD := fz_sd hP (hD) rfl
  refine lv_aload_n hx hb dX3_init_54 rfl (lv_at hl 0 rfl) ?_
  refine lv_bipush (v := 8) hx hb dX3_init_55 (by decide) ?_
  have hFc := noneFree hS hA
  have hPc := (nilP : va_P (dC, dI) vwCl [] H)
  have hDc := (nilD : va_D A [])
  have hKc : va_K (dC, dI) vwCl ([(kb, .object "OptimaWorks$Whole"), (kw, .long)]) _ := hK.sub [0, 1] rfl
  refine va_callr (va_runS (As := [.int 8]) (rest := [.ref (hG 0)]) ⟨hx, hb, hml, hown, hts⟩ (k_X5_wholes l dC dI kb kw 8 8 (by decide) (by decide) H.size) (va_cwS 1 hts gwsKX3_init_0 rfl rfl rfl (by decide +kernel) ⟨by first | decide +kernel | (dsimp only [headSpec] <;> omega), by first | decide +kernel | (dsimp only [headSpec] <;> omega)⟩) ⟨fun a U g mk q => by obtain ⟨q0, q1, qP, qK, qD, qE⟩ := q; exact ⟨q0, q1, qP, va_K.moved (u := U) (U := U.calling g mk a) (Vm.Alike.refl U.vm) qK, qD, qE.call⟩, fun U hU hW => ⟨rfl, by rw [hU], by rw [hU]; exact hPc, va_K.moved hW.alike hKc, hDc.weaken (fun _ _ _ _ => trivial), by rw [hU]; exact (((hE : CE A s s.heap).kept hS.2.1).narrow (fun q h => hFc q h)).warm hW⟩⟩ rfl rfl hl.1 rfl (lv_room (Nat.le_of_ble_eq_true rfl)) dX3_init_57 ⟨by first | decide +kernel | (dsimp only [headSpec] <;> omega), by first | decide +kernel | (dsimp only [headSpec] <;> omega)⟩) hS (fun q _ h => hFc q h) hFc (fun u r57 t H1 locs ht hvm hw9 hB hz1 hk1 hS => ?_)
  obtain ⟨h57, l57⟩ := u
  obtain ⟨hP1, hD1⟩ := hB
  dsimp only at hP1 hD1
  rw [ht] at hP1
  have p8 : List.Perm (α := Nat × va_E) (([(kc3 (hG 0) .null .null .null (.int 0) (.int 0) (.ref q7) (.ref r15) (.ref q22) (.ref q33) (.ref q44) .null .null .null .null .null .null (.int 0)), (kr0 q7 kZ 28), (kq0 r15 kb 28 (fW 28 h15))] ++ [(kq0 r57 kb 8 (fW 8 h57))]) ++ (WW 8 h57 l57 kw (fun _ => 0) (fun _ => 0) (fun _ _ => 0) ++ (T9_3))) (([(kq0 r57 kb 8 (fW 8 h57))] ++ WW 8 h57 l57 kw (fun _ => 0) (fun _ => 0) (fun _ _ => 0)) ++ ([(kc3 (hG 0) .null .null .null (.int 0) (.int 0) (.ref q7) (.ref r15) (.ref q22) (.ref q33) (.ref q44) .null .null .null .null .null .null (.int 0)), (kr0 q7 kZ 28), (kq0 r15 kb 28 (fW 28 h15))] ++ (T9_3))) := perm_in
  obtain ⟨hP, hD⟩ := frameG (ws := [(kc3 (hG 0) .null .null .null (.int 0) (.int 0) (.ref q7) (.ref r15) (.ref q22) (.ref q33) (.ref q44) .null .null .null .null .null .null (.int 0)), (kr0 q7 kZ 28), (kq0 r15 kb 28 (fW 28 h15))] ++ (T9_3)) (ws' := ([(kc3 (hG 0) .null .null .null (.int 0) (.int 0) (.ref q7) (.ref r15) (.ref q22) (.ref q33) (.ref q44) .null .null .null .null .null .null (.int 0)), (kr0 q7 kZ 28), (kq0 r15 kb 28 (fW 28 h15))] ++ [(kq0 r57 kb 8 (fW 8 h57))]) ++ (WW 8 h57 l57 kw (fun _ => 0) (fun _ => 0) (fun _ _ => 0) ++ (T9_3))) (X := []) (R := [(kc3 (hG 0) .null .null .null (.int 0) (.int 0) (.ref q7) (.ref r15) (.ref q22) (.ref q33) (.ref q44) .null .null .null .null .null .null (.int 0)), (kr0 q7 kZ 28), (kq0 r15 kb 28 (fW 28 h15))] ++ (T9_3)) perm_nil p8 hP hD hk1 hFc hP1 hD1
  generalize H1 = H at hP hS ⊢
  clear p8 hPc hDc hKc hFc hP1 hD1 hk1 hz1 hw9
  obtain ⟨T9_4, eT9_4⟩ : ∃ t9 : va_W, t9 = WW 8 h57 l57 kw (fun _ => 0) (fun _ => 0) (fun _ _ => 0) ++ (T9_3) := ⟨_, rfl⟩
  have hP : va_P (dC, dI) vwCl ([(kc3 (hG 0) .null .null .null (.int 0) (.int 0) (.ref q7) (.ref r15) (.ref q22) (.ref q33) (.ref q44) .null .null .null .null .null .null (.int 0)), (kr0 q7 kZ 28), (kq0 r15 kb 28 (fW 28 h15)), (kq0 r57 kb 8 (fW 8 h57))] ++ (T9_4)) H := by rw [eT9_4]; exact hP
  have hD : va_D A ([(kc3 (hG 0) .null .null .null (.int 0) (.int 0) (.ref q7) (.ref r15) (.ref q22) (.ref q33) (.ref q44) .null .null .null .null .null .null (.int 0)), (kr0 q7 kZ 28), (kq0 r15 kb 28 (fW 28 h15)), (kq0 r57 kb 8 (fW 8 h57))] ++ (T9_4)) := by rw [eT9_4]; exact hD
  refine W.widen (k := 81) (n := 727) (by omega) (by omega) ?_
  refine va_putF (D := (dC, dI)) (ci := 3) (v := .ref r57) (ty := .array (.object "OptimaWorks$Whole")) (C := RX3) (T := TX3) (N := 17) hx hb hts iwsKX3_init_in3 tyX3 tyX3_ok nmX3 hown hK hP hD hS 0 rfl rfl 10 (by decide) (hts (.fieldLink RX3 40 "OptimaWorks$Prover" "place" "[LOptimaWorks$Whole;") (by decide +kernel)) (fun _ h9 => h9) rfl hin rfl (by decide +kernel) rfl rfl (Nat.le_of_ble_eq_true rfl) dX3_init_60 (fun H locs hP hD hS => ?_)
  have hP : va_P (dC, dI) vwCl ([(kc3 (hG 0) .null .null .null (.int 0) (.int 0) (.ref q7) (.ref r15) (.ref q22) (.ref q33) (.ref q44) (.ref r57) .null .null .null .null .null (.int 0)), (kr0 q7 kZ 28), (kq0 r15 kb 28 (fW 28 h15)), (kq0 r57 kb 8 (fW 8 h57))] ++ (T9_4)) H := hP
  have hD := fz_sd hP (hD) rfl
  refine lv_aload_n hx hb dX3_init_63 rfl (lv_at hl 0 rfl) ?_
  refine va_new (ci := 8) (fs := [.null, .int 0, .int 0]) (C := RX8) (T := TX8) (N := 3) hx hb hts iwsKX3_init_in8 tyX8 tyX8_ok hown (hts _ hm_kl_X3_init_0) (hts _ hm_kl_X3_init_1) (hts _ hm_kl_X3_init_2) hK hP hD hS hA rfl (by decide +kernel) (by first | decide +kernel | (dsimp only [headSpec] <;> omega)) (by first | decide +kernel | (dsimp only [headSpec] <;> omega)) dX3_init_64 (fun q64 H hP hD hS => ?_)
  refine lv_dup hx hb dX3_init_67 rfl ?_
  have p9 : List.Perm (α := Nat × va_E) (([(kc3 (hG 0) .null .null .null (.int 0) (.int 0) (.ref q7) (.ref r15) (.ref q22) (.ref q33) (.ref q44) (.ref r57) .null .null .null .null .null (.int 0)), (kr0 q7 kZ 28), (kq0 r15 kb 28 (fW 28 h15)), (kq0 r57 kb 8 (fW 8 h57))] ++ (T9_4)) ++ [(q64, .inr (8, [.null, .int 0, .int 0]))]) ([(q64, .inr (8, [.null, .int 0, .int 0]))] ++ ([(kc3 (hG 0) .null .null .null (.int 0) (.int 0) (.ref q7) (.ref r15) (.ref q22) (.ref q33) (.ref q44) (.ref r57) .null .null .null .null .null (.int 0)), (kr0 q7 kZ 28), (kq0 r15 kb 28 (fW 28 h15)), (kq0 r57 kb 8 (fW 8 h57))] ++ (T9_4))) := List.perm_append_comm
  have hPc := hP.mem (fun q h => p9.mem_iff.mpr (List.mem_append_left _ h))
  have hDc := (hD.perm p9).left
  have hKc : va_K (dC, dI) vwCl ([]) _ := hK.sub [] rfl
  have hFc := freeG p9 hD hS hA
  refine va_callv (va_runIN (As := []) (rest := [.ref q64, .ref (hG 0)]) ⟨hx, hb, hml, hown, hts⟩ (p_X8_init l dC dI q64 H.size) ⟨va_cnB 0 hts gwsKX3_init_1 rfl rfl rfl (hE.2.2.1.2.2.2.2.1 (.methodLinkNest RX3 29 yX8_init RX11) (by decide +kernel)) (hts _ hm_kl_X3_init_2) (by decide +kernel) ⟨by first | decide +kernel | (dsimp only [headSpec] <;> omega), by first | decide +kernel | (dsimp only [headSpec] <;> omega)⟩, rfl, (hts _ hm_kl_X3_init_3)⟩ ⟨fun a U g mk q => by obtain ⟨q0, q1, qP, qK, qD⟩ := q; exact ⟨q0, q1, qP, va_K.moved (u := U) (U := U.calling g mk a) (Vm.Alike.refl U.vm) qK, qD⟩, fun U hU hW => ⟨rfl, by rw [hU], by rw [hU]; exact hPc, va_K.moved hW.alike hKc, hDc.weaken (fun _ _ _ _ => trivial)⟩⟩ rfl rfl hl.1 rfl (lv_room (Nat.le_of_ble_eq_true rfl)) dX3_init_68 ⟨by first | decide +kernel | (dsimp only [headSpec] <;> omega), by first | decide +kernel | (dsimp only [headSpec] <;> omega)⟩) hS (fun q _ h => hFc q h) hFc (fun u t H1 locs ht hvm hw hB hz1 hk1 hS => ?_)
  obtain ⟨y64, k9⟩ := u
  obtain ⟨hP1, hK1, hD1⟩ := hB
  dsimp only at hP1 hK1 hD1
  rw [ht] at hP1
  have hK1 := va_K.moved hvm.symm hK1
  obtain rfl : kw = k9 := (va_K.cl2 hK1 hK (i := 0) (j := 1) rfl rfl).symm
  clear hK1 hw
  have p8 : List.Perm (α := Nat × va_E) ([(kc3 (hG 0) .null .null .null (.int 0) (.int 0) (.ref q7) (.ref r15) (.ref q22) (.ref q33) (.ref q44) (.ref r57) .null .null .null .null .null (.int 0)), (kr0 q7 kZ 28), (kq0 r15 kb 28 (fW 28 h15)), (kq0 r57 kb 8 (fW 8 h57))] ++ ([(q64, .inr (8, [.ref y64, .int 0, .int 0])), (kl0 y64 kw 14)] ++ (T9_4))) ([(q64, .inr (8, [.ref y64, .int 0, .int 0])), (kl0 y64 kw 14)] ++ ([(kc3 (hG 0) .null .null .null (.int 0) (.int 0) (.ref q7) (.ref r15) (.ref q22) (.ref q33) (.ref q44) (.ref r57) .null .null .null .null .null (.int 0)), (kr0 q7 kZ 28), (kq0 r15 kb 28 (fW 28 h15)), (kq0 r57 kb 8 (fW 8 h57))] ++ (T9_4))) := List.perm_append_comm_assoc _ _ _
  obtain ⟨hP, hD⟩ := frameG p9 p8 hP hD hk1 hFc hP1 hD1
  generalize H1 = H at hP hS ⊢
  clear p9 p8 hPc hDc hKc hFc hP1 hD1 hk1 hz1
  obtain ⟨T9_5, eT9_5⟩ : ∃ t9 : va_W, t9 = WW 1 (fun _ => q64) (fun _ => y64) kw (fun _ => 0) (fun _ => 0) (fun _ _ => 0) ++ (T9_4) := ⟨_, rfl⟩
  have hP : va_P (dC, dI) vwCl ([(kc3 (hG 0) .null .null .null (.int 0) (.int 0) (.ref q7) (.ref r15) (.ref q22) (.ref q33) (.ref q44) (.ref r57) .null .null .null .null .null (.int 0)), (kr0 q7 kZ 28), (kq0 r15 kb 28 (fW 28 h15)), (kq0 r57 kb 8 (fW 8 h57))] ++ (T9_5)) H := by rw [eT9_5]; exact hP
  have hD : va_D A ([(kc3 (hG 0) .null .null .null (.int 0) (.int 0) (.ref q7) (.ref r15) (.ref q22) (.ref q33) (.ref q44) (.ref r57) .null .null .null .null .null (.int 0)), (kr0 q7 kZ 28), (kq0 r15 kb 28 (fW 28 h15)), (kq0 r57 kb 8 (fW 8 h57))] ++ (T9_5)) := by rw [eT9_5]; exact hD
  refine W.widen (k := 83) (n := 744) (by omega) (by omega) ?_
  refine va_putF (D := (dC, dI)) (ci := 3) (v := .ref q64) (ty := .object "OptimaWorks$Whole") (C := RX3) (T := TX3) (N := 17) hx hb hts iwsKX3_init_in3 tyX3 tyX3_ok nmX3 hown hK hP hD hS 0 rfl rfl 11 (by decide) (hts (.fieldLink RX3 43 "OptimaWorks$Prover" "shortfall" "LOptimaWorks$Whole;") (by decide +kernel)) (fun _ h9 => h9) rfl hin rfl (by decide +kernel) rfl rfl (Nat.le_of_ble_eq_true rfl) dX3_init_71 (fun H locs hP hD hS => ?_)
  have hP : va_P (dC, dI) vwCl ([(kc3 (hG 0) .null .null .null (.int 0) (.int 0) (.ref q7) (.ref r15) (.ref q22) (.ref q33) (.ref q44) (.ref r57) (.ref q64) .null .null .null .null (.int 0)), (kr0 q7 kZ 28), (kq0 r15 kb 28 (fW 28 h15)), (kq0 r57 kb 8 (fW 8 h57))] ++ (T9_5)) H := hP
  have hD := fz_sd hP (hD) rfl
  refine lv_aload_n hx hb dX3_init_74 rfl (lv_at hl 0 rfl) ?_
  refine va_new (ci := 8) (fs := [.null, .int 0, .int 0]) (C := RX8) (T := TX8) (N := 3) hx hb hts iwsKX3_init_in8 tyX8 tyX8_ok hown (hts _ hm_kl_X3_init_0) (hts _ hm_kl_X3_init_1) (hts _ hm_kl_X3_init_2) hK hP hD hS hA rfl (by decide +kernel) (by first | decide +kernel | (dsimp only [headSpec] <;> omega)) (by first | decide +kernel | (dsimp only [headSpec] <;> omega)) dX3_init_75 (fun q75 H hP hD hS => ?_)
  refine lv_dup hx hb dX3_init_78 rfl ?_
  have p9 : List.Perm (α := Nat × va_E) (([(kc3 (hG 0) .null .null .null (.int 0) (.int 0) (.ref q7) (.ref r15) (.ref q22) (.ref q33) (.ref q44) (.ref r57) (.ref q64) .null .null .null .null (.int 0)), (kr0 q7 kZ 28), (kq0 r15 kb 28 (fW 28 h15)), (kq0 r57 kb 8 (fW 8 h57))] ++ (T9_5)) ++ [(q75, .inr (8, [.null, .int 0, .int 0]))]) ([(q75, .inr (8, [.null, .int 0, .int 0]))] ++ ([(kc3 (hG 0) .null .null .null (.int 0) (.int 0) (.ref q7) (.ref r15) (.ref q22) (.ref q33) (.ref q44) (.ref r57) (.ref q64) .null .null .null .null (.int 0)), (kr0 q7 kZ 28), (kq0 r15 kb 28 (fW 28 h15)), (kq0 r57 kb 8 (fW 8 h57))] ++ (T9_5))) := List.perm_append_comm
  have hPc := hP.mem (fun q h => p9.mem_iff.mpr (List.mem_append_left _ h))
  have hDc := (hD.perm p9).left
  have hKc : va_K (dC, dI) vwCl ([]) _ := hK.sub [] rfl
  have hFc := freeG p9 hD hS hA
  refine va_callv (va_runIN (As := []) (rest := [.ref q75, .ref (hG 0)]) ⟨hx, hb, hml, hown, hts⟩ (p_X8_init l dC dI q75 H.size) ⟨va_cnB 0 hts gwsKX3_init_1 rfl rfl rfl (hE.2.2.1.2.2.2.2.1 (.methodLinkNest RX3 29 yX8_init RX11) (by decide +kernel)) (hts _ hm_kl_X3_init_2) (by decide +kernel) ⟨by first | decide +kernel | (dsimp only [headSpec] <;> omega), by first | decide +kernel | (dsimp only [headSpec] <;> omega)⟩, rfl, (hts _ hm_kl_X3_init_3)⟩ ⟨fun a U g mk q => by obtain ⟨q0, q1, qP, qK, qD⟩ := q; exact ⟨q0, q1, qP, va_K.moved (u := U) (U := U.calling g mk a) (Vm.Alike.refl U.vm) qK, qD⟩, fun U hU hW => ⟨rfl, by rw [hU], by rw [hU]; exact hPc, va_K.moved hW.alike hKc, hDc.weaken (fun _ _ _ _ => trivial)⟩⟩ rfl rfl hl.1 rfl (lv_room (Nat.le_of_ble_eq_true rfl)) dX3_init_79 ⟨by first | decide +kernel | (dsimp only [headSpec] <;> omega), by first | decide +kernel | (dsimp only [headSpec] <;> omega)⟩) hS (fun q _ h => hFc q h) hFc (fun u t H1 locs ht hvm hw hB hz1 hk1 hS => ?_)
  obtain ⟨y75, k9⟩ := u
  obtain ⟨hP1, hK1, hD1⟩ := hB
  dsimp only at hP1 hK1 hD1
  rw [ht] at hP1
  have hK1 := va_K.moved hvm.symm hK1
  obtain rfl : kw = k9 := (va_K.cl2 hK1 hK (i := 0) (j := 1) rfl rfl).symm
  clear hK1 hw
  have p8 : List.Perm (α := Nat × va_E) ([(kc3 (hG 0) .null .null .null (.int 0) (.int 0) (.ref q7) (.ref r15) (.ref q22) (.ref q33) (.ref q44) (.ref r57) (.ref q64) .null .null .null .null (.int 0)), (kr0 q7 kZ 28), (kq0 r15 kb 28 (fW 28 h15)), (kq0 r57 kb 8 (fW 8 h57))] ++ ([(q75, .inr (8, [.ref y75, .int 0, .int 0])), (kl0 y75 kw 14)] ++ (T9_5))) ([(q75, .inr (8, [.ref y75, .int 0, .int 0])), (kl0 y75 kw 14)] ++ ([(kc3 (hG 0) .null .null .null (.int 0) (.int 0) (.ref q7) (.ref r15) (.ref q22) (.ref q33) (.ref q44) (.ref r57) (.ref q64) .null .null .null .null (.int 0)), (kr0 q7 kZ 28), (kq0 r15 kb 28 (fW 28 h15)), (kq0 r57 kb 8 (fW 8 h57))] ++ (T9_5))) := List.perm_append_comm_assoc _ _ _
  obtain ⟨hP, hD⟩ := frameG p9 p8 hP hD hk1 hFc hP1 hD1
  generalize H1 = H at hP hS ⊢
  clear p9 p8 hPc hDc hKc hFc hP1 hD1 hk1 hz1
  obtain ⟨T9_6, eT9_6⟩ : ∃ t9 : va_W, t9 = WW 1 (fun _ => q75) (fun _ => y75) kw (fun _ => 0) (fun _ => 0) (fun _ _ => 0) ++ (T9_5) := ⟨_, rfl⟩
  have hP : va_P (dC, dI) vwCl ([(kc3 (hG 0) .null .null .null (.int 0) (.int 0) (.ref q7) (.ref r15) (.ref q22) (.ref q33) (.ref q44) (.ref r57) (.ref q64) .null .null .null .null (.int 0)), (kr0 q7 kZ 28), (kq0 r15 kb 28 (fW 28 h15)), (kq0 r57 kb 8 (fW 8 h57))] ++ (T9_6)) H := by rw [eT9_6]; exact hP
  have hD : va_D A ([(kc3 (hG 0) .null .null .null (.int 0) (.int 0) (.ref q7) (.ref r15) (.ref q22) (.ref q33) (.ref q44) (.ref r57) (.ref q64) .null .null .null .null (.int 0)), (kr0 q7 kZ 28), (kq0 r15 kb 28 (fW 28 h15)), (kq0 r57 kb 8 (fW 8 h57))] ++ (T9_6)) := by rw [eT9_6]; exact hD
  refine W.widen (k := 85) (n := 761) (by omega) (by omega) ?_
  refine va_putF (D := (dC, dI)) (ci := 3) (v := .ref q75) (ty := .object "OptimaWorks$Whole") (C := RX3) (T := TX3) (N := 17) hx hb hts iwsKX3_init_in3 tyX3 tyX3_ok nmX3 hown hK hP hD hS 0 rfl rfl 12 (by decide) (hts (.fieldLink RX3 46 "OptimaWorks$Prover" "under" "LOptimaWorks$Whole;") (by decide +kernel)) (fun _ h9 => h9) rfl hin rfl (by decide +kernel) rfl rfl (Nat.le_of_ble_eq_true rfl) dX3_init_82 (fun H locs hP hD hS => ?_)
  have hP : va_P (dC, dI) vwCl ([(kc3 (hG 0) .null .null .null (.int 0) (.int 0) (.ref q7) (.ref r15) (.ref q22) (.ref q33) (.ref q44) (.ref r57) (.ref q64) (.ref q75) .null .null .null (.int 0)), (kr0 q7 kZ 28), (kq0 r15 kb 28 (fW 28 h15)), (kq0 r57 kb 8 (fW 8 h57))] ++ (T9_6)) H := hP
  have hD := fz_sd hP (hD) rfl
  refine lv_aload_n hx hb dX3_init_85 rfl (lv_at hl 0 rfl) ?_
  refine va_new (ci := 8) (fs := [.null, .int 0, .int 0]) (C := RX8) (T := TX8) (N := 3) hx hb hts iwsKX3_init_in8 tyX8 tyX8_ok hown (hts _ hm_kl_X3_init_0) (hts _ hm_kl_X3_init_1) (hts _ hm_kl_X3_init_2) hK hP hD hS hA rfl (by decide +kernel) (by first | decide +kernel | (dsimp only [headSpec] <;> omega)) (by first | decide +kernel | (dsimp only [headSpec] <;> omega)) dX3_init_86 (fun q86 H hP hD hS => ?_)
  refine lv_dup hx hb dX3_init_89 rfl ?_
  have p9 : List.Perm (α := Nat × va_E) (([(kc3 (hG 0) .null .null .null (.int 0) (.int 0) (.ref q7) (.ref r15) (.ref q22) (.ref q33) (.ref q44) (.ref r57) (.ref q64) (.ref q75) .null .null .null (.int 0)), (kr0 q7 kZ 28), (kq0 r15 kb 28 (fW 28 h15)), (kq0 r57 kb 8 (fW 8 h57))] ++ (T9_6)) ++ [(q86, .inr (8, [.null, .int 0, .int 0]))]) ([(q86, .inr (8, [.null, .int 0, .int 0]))] ++ ([(kc3 (hG 0) .null .null .null (.int 0) (.int 0) (.ref q7) (.ref r15) (.ref q22) (.ref q33) (.ref q44) (.ref r57) (.ref q64) (.ref q75) .null .null .null (.int 0)), (kr0 q7 kZ 28), (kq0 r15 kb 28 (fW 28 h15)), (kq0 r57 kb 8 (fW 8 h57))] ++ (T9_6))) := List.perm_append_comm
  have hPc := hP.mem (fun q h => p9.mem_iff.mpr (List.mem_append_left _ h))
  have hDc := (hD.perm p9).left
  have hKc : va_K (dC, dI) vwCl ([]) _ := hK.sub [] rfl
  have hFc := freeG p9 hD hS hA
  refine va_callv (va_runIN (As := []) (rest := [.ref q86, .ref (hG 0)]) ⟨hx, hb, hml, hown, hts⟩ (p_X8_init l dC dI q86 H.size) ⟨va_cnB 0 hts gwsKX3_init_1 rfl rfl rfl (hE.2.2.1.2.2.2.2.1 (.methodLinkNest RX3 29 yX8_init RX11) (by decide +kernel)) (hts _ hm_kl_X3_init_2) (by decide +kernel) ⟨by first | decide +kernel | (dsimp only [headSpec] <;> omega), by first | decide +kernel | (dsimp only [headSpec] <;> omega)⟩, rfl, (hts _ hm_kl_X3_init_3)⟩ ⟨fun a U g mk q => by obtain ⟨q0, q1, qP, qK, qD⟩ := q; exact ⟨q0, q1, qP, va_K.moved (u := U) (U := U.calling g mk a) (Vm.Alike.refl U.vm) qK, qD⟩, fun U hU hW => ⟨rfl, by rw [hU], by rw [hU]; exact hPc, va_K.moved hW.alike hKc, hDc.weaken (fun _ _ _ _ => trivial)⟩⟩ rfl rfl hl.1 rfl (lv_room (Nat.le_of_ble_eq_true rfl)) dX3_init_90 ⟨by first | decide +kernel | (dsimp only [headSpec] <;> omega), by first | decide +kernel | (dsimp only [headSpec] <;> omega)⟩) hS (fun q _ h => hFc q h) hFc (fun u t H1 locs ht hvm hw hB hz1 hk1 hS => ?_)
  obtain ⟨y86, k9⟩ := u
  obtain ⟨hP1, hK1, hD1⟩ := hB
  dsimp only at hP1 hK1 hD1
  rw [ht] at hP1
  have hK1 := va_K.moved hvm.symm hK1
  obtain rfl : kw = k9 := (va_K.cl2 hK1 hK (i := 0) (j := 1) rfl rfl).symm
  clear hK1 hw
  have p8 : List.Perm (α := Nat × va_E) ([(kc3 (hG 0) .null .null .null (.int 0) (.int 0) (.ref q7) (.ref r15) (.ref q22) (.ref q33) (.ref q44) (.ref r57) (.ref q64) (.ref q75) .null .null .null (.int 0)), (kr0 q7 kZ 28), (kq0 r15 kb 28 (fW 28 h15)), (kq0 r57 kb 8 (fW 8 h57))] ++ ([(q86, .inr (8, [.ref y86, .int 0, .int 0])), (kl0 y86 kw 14)] ++ (T9_6))) ([(q86, .inr (8, [.ref y86, .int 0, .int 0])), (kl0 y86 kw 14)] ++ ([(kc3 (hG 0) .null .null .null (.int 0) (.int 0) (.ref q7) (.ref r15) (.ref q22) (.ref q33) (.ref q44) (.ref r57) (.ref q64) (.ref q75) .null .null .null (.int 0)), (kr0 q7 kZ 28), (kq0 r15 kb 28 (fW 28 h15)), (kq0 r57 kb 8 (fW 8 h57))] ++ (T9_6))) := List.perm_append_comm_assoc _ _ _
  obtain ⟨hP, hD⟩ := frameG p9 p8 hP hD hk1 hFc hP1 hD1
  generalize H1 = H at hP hS ⊢
  clear p9 p8 hPc hDc hKc hFc hP1 hD1 hk1 hz1
  obtain ⟨T9_7, eT9_7⟩ : ∃ t9 : va_W, t9 = WW 1 (fun _ => q86) (fun _ => y86) kw (fun _ => 0) (fun _ => 0) (fun _ _ => 0) ++ (T9_6) := ⟨_, rfl⟩
  have hP : va_P (dC, dI) vwCl ([(kc3 (hG 0) .null .null .null (.int 0) (.int 0) (.ref q7) (.ref r15) (.ref q22) (.ref q33) (.ref q44) (.ref r57) (.ref q64) (.ref q75) .null .null .null (.int 0)), (kr0 q7 kZ 28), (kq0 r15 kb 28 (fW 28 h15)), (kq0 r57 kb 8 (fW 8 h57))] ++ (T9_7)) H := by rw [eT9_7]; exact hP
  have hD : va_D A ([(kc3 (hG 0) .null .null .null (.int 0) (.int 0) (.ref q7) (.ref r15) (.ref q22) (.ref q33) (.ref q44) (.ref r57) (.ref q64) (.ref q75) .null .null .null (.int 0)), (kr0 q7 kZ 28), (kq0 r15 kb 28 (fW 28 h15)), (kq0 r57 kb 8 (fW 8 h57))] ++ (T9_7)) := by rw [eT9_7]; exact hD
  refine W.widen (k := 87) (n := 778) (by omega) (by omega) ?_
  refine va_putF (D := (dC, dI)) (ci := 3) (v := .ref q86) (ty := .object "OptimaWorks$Whole") (C := RX3) (T := TX3) (N := 17) hx hb hts iwsKX3_init_in3 tyX3 tyX3_ok nmX3 hown hK hP hD hS 0 rfl rfl 13 (by decide) (hts (.fieldLink RX3 49 "OptimaWorks$Prover" "leftOver" "LOptimaWorks$Whole;") (by decide +kernel)) (fun _ h9 => h9) rfl hin rfl (by decide +kernel) rfl rfl (Nat.le_of_ble_eq_true rfl) dX3_init_93 (fun H locs hP hD hS => ?_)
  have hP : va_P (dC, dI) vwCl ([(kc3 (hG 0) .null .null .null (.int 0) (.int 0) (.ref q7) (.ref r15) (.ref q22) (.ref q33) (.ref q44) (.ref r57) (.ref q64) (.ref q75) (.ref q86) .null .null (.int 0)), (kr0 q7 kZ 28), (kq0 r15 kb 28 (fW 28 h15)), (kq0 r57 kb 8 (fW 8 h57))] ++ (T9_7)) H := hP
  have hD := fz_sd hP (hD) rfl
  refine lv_aload_n hx hb dX3_init_96 rfl (lv_at hl 0 rfl) ?_
  refine lv_bipush (v := 40) hx hb dX3_init_97 (by decide) ?_
  refine va_newa (atype := .int) (ty := .int) (N' := 40) (a0 := (40, .inl (fun _ => 0))) hx hb (hts _ hm_kl_X3_init_4) rfl hK hP hD hS hA (fun _ => rfl) (by decide) (by decide) (by decide +kernel) (by first | decide +kernel | (dsimp only [headSpec] <;> omega)) (by first | decide +kernel | (dsimp only [headSpec] <;> omega)) dX3_init_99 (fun q99 cA H hKn hP hD hS => ?_)
  obtain rfl : kI = cA := (va_K.cl2 hKn hK (i := 4) (j := 2) rfl rfl).symm
  clear hKn
  have hP := hP.mem (fun q h => (perm_mid (a := [(kc3 (hG 0) .null .null .null (.int 0) (.int 0) (.ref q7) (.ref r15) (.ref q22) (.ref q33) (.ref q44) (.ref r57) (.ref q64) (.ref q75) (.ref q86) .null .null (.int 0)), (kr0 q7 kZ 28), (kq0 r15 kb 28 (fW 28 h15)), (kq0 r57 kb 8 (fW 8 h57))]) (t := T9_7) (x := (kr0 q99 kI 40))).mem_iff.mpr h)
  have hD := hD.perm (perm_mid (a := [(kc3 (hG 0) .null .null .null (.int 0) (.int 0) (.ref q7) (.ref r15) (.ref q22) (.ref q33) (.ref q44) (.ref r57) (.ref q64) (.ref q75) (.ref q86) .null .null (.int 0)), (kr0 q7 kZ 28), (kq0 r15 kb 28 (fW 28 h15)), (kq0 r57 kb 8 (fW 8 h57))]) (t := T9_7) (x := (kr0 q99 kI 40)))
  have hP : va_P (dC, dI) vwCl ([(kc3 (hG 0) .null .null .null (.int 0) (.int 0) (.ref q7) (.ref r15) (.ref q22) (.ref q33) (.ref q44) (.ref r57) (.ref q64) (.ref q75) (.ref q86) .null .null (.int 0)), (kr0 q7 kZ 28), (kq0 r15 kb 28 (fW 28 h15)), (kq0 r57 kb 8 (fW 8 h57)), (kr0 q99 kI 40)] ++ (T9_7)) H := hP
  have hD := fz_sd hP (hD) rfl
  refine W.widen (k := 88) (n := 818) (by omega) (by omega) ?_
  refine va_putF (D := (dC, dI)) (ci := 3) (v := .ref q99) (ty := .array .int) (C := RX3) (T := TX3) (N := 17) hx hb hts iwsKX3_init_in3 tyX3 tyX3_ok nmX3 hown hK hP hD hS 0 rfl rfl 14 (by decide) (hts (.fieldLink RX3 52 "OptimaWorks$Prover" "need" "[I") (by decide +kernel)) (fun _ h9 => h9) rfl hin rfl (by decide +kernel) rfl rfl (Nat.le_of_ble_eq_true rfl) dX3_init_101 (fun H locs hP hD hS => ?_)
  have hP : va_P (dC, dI) vwCl ([(kc3 (hG 0) .null .null .null (.int 0) (.int 0) (.ref q7) (.ref r15) (.ref q22) (.ref q33) (.ref q44) (.ref r57) (.ref q64) (.ref q75) (.ref q86) (.ref q99) .null (.int 0)), (kr0 q7 kZ 28), (kq0 r15 kb 28 (fW 28 h15)), (kq0 r57 kb 8 (fW 8 h57)), (kr0 q99 kI 40)] ++ (T9_7)) H := hP
  have hD := fz_sd hP (hD) rfl
  refine lv_aload_n hx hb dX3_init_104 rfl (lv_at hl 0 rfl) ?_
  refine lv_bipush (v := 40) hx hb dX3_init_105 (by decide) ?_
  refine va_newa (atype := .int) (ty := .int) (N' := 40) (a0 := (40, .inl (fun _ => 0))) hx hb (hts _ hm_kl_X3_init_4) rfl hK hP hD hS hA (fun _ => rfl) (by decide) (by decide) (by decide +kernel) (by first | decide +kernel | (dsimp only [headSpec] <;> omega)) (by first | decide +kernel | (dsimp only [headSpec] <;> omega)) dX3_init_107 (fun q107 cA H hKn hP hD hS => ?_)
  obtain rfl : kI = cA := (va_K.cl2 hKn hK (i := 4) (j := 2) rfl rfl).symm
  clear hKn
  have hP := hP.mem (fun q h => (perm_mid (a := [(kc3 (hG 0) .null .null .null (.int 0) (.int 0) (.ref q7) (.ref r15) (.ref q22) (.ref q33) (.ref q44) (.ref r57) (.ref q64) (.ref q75) (.ref q86) (.ref q99) .null (.int 0)), (kr0 q7 kZ 28), (kq0 r15 kb 28 (fW 28 h15)), (kq0 r57 kb 8 (fW 8 h57)), (kr0 q99 kI 40)]) (t := T9_7) (x := (kr0 q107 kI 40))).mem_iff.mpr h)
  have hD := hD.perm (perm_mid (a := [(kc3 (hG 0) .null .null .null (.int 0) (.int 0) (.ref q7) (.ref r15) (.ref q22) (.ref q33) (.ref q44) (.ref r57) (.ref q64) (.ref q75) (.ref q86) (.ref q99) .null (.int 0)), (kr0 q7 kZ 28), (kq0 r15 kb 28 (fW 28 h15)), (kq0 r57 kb 8 (fW 8 h57)), (kr0 q99 kI 40)]) (t := T9_7) (x := (kr0 q107 kI 40)))
  have hP : va_P (dC, dI) vwCl ([(kc3 (hG 0) .null .null .null (.int 0) (.int 0) (.ref q7) (.ref r15) (.ref q22) (.ref q33) (.ref q44) (.ref r57) (.ref q64) (.ref q75) (.ref q86) (.ref q99) .null (.int 0)), (kr0 q7 kZ 28), (kq0 r15 kb 28 (fW 28 h15)), (kq0 r57 kb 8 (fW 8 h57)), (kr0 q99 kI 40), (kr0 q107 kI 40)] ++ (T9_7)) H := hP
  have hD := fz_sd hP (hD) rfl
  refine W.widen (k := 89) (n := 858) (by omega) (by omega) ?_
  refine va_putF (D := (dC, dI)) (ci := 3) (v := .ref q107) (ty := .array .int) (C := RX3) (T := TX3) (N := 17) hx hb hts iwsKX3_init_in3 tyX3 tyX3_ok nmX3 hown hK hP hD hS 0 rfl rfl 15 (by decide) (hts (.fieldLink RX3 56 "OptimaWorks$Prover" "turn" "[I") (by decide +kernel)) (fun _ h9 => h9) rfl hin rfl (by decide +kernel) rfl rfl (Nat.le_of_ble_eq_true rfl) dX3_init_109 (fun H locs hP hD hS => ?_)
  have hP : va_P (dC, dI) vwCl ([(kc3 (hG 0) .null .null .null (.int 0) (.int 0) (.ref q7) (.ref r15) (.ref q22) (.ref q33) (.ref q44) (.ref r57) (.ref q64) (.ref q75) (.ref q86) (.ref q99) (.ref q107) (.int 0)), (kr0 q7 kZ 28), (kq0 r15 kb 28 (fW 28 h15)), (kq0 r57 kb 8 (fW 8 h57)), (kr0 q99 kI 40), (kr0 q107 kI 40)] ++ (T9_7)) H := hP
  have hD := fz_sd hP (hD) rfl
  refine lv_aload_n hx hb dX3_init_112 rfl (lv_at hl 0 rfl) ?_
  refine lv_aload_n hx hb dX3_init_113 rfl (lv_at hl 1 rfl) ?_
  refine va_putF (D := (dC, dI)) (ci := 3) (v := .ref (hM 0)) (ty := .object "OptimaWorks$Model") (C := RX3) (T := TX3) (N := 17) hx hb hts iwsKX3_init_in3 tyX3 tyX3_ok nmX3 hown hK hP hD hS 0 rfl rfl 0 (by decide) (hts (.fieldLink RX3 59 "OptimaWorks$Prover" "model" "LOptimaWorks$Model;") (by decide +kernel)) (fun _ h9 => h9) rfl hin rfl (by decide +kernel) rfl rfl (Nat.le_of_ble_eq_true rfl) dX3_init_114 (fun H locs hP hD hS => ?_)
  have hP : va_P (dC, dI) vwCl ([(kc3 (hG 0) (.ref (hM 0)) .null .null (.int 0) (.int 0) (.ref q7) (.ref r15) (.ref q22) (.ref q33) (.ref q44) (.ref r57) (.ref q64) (.ref q75) (.ref q86) (.ref q99) (.ref q107) (.int 0)), (kr0 q7 kZ 28), (kq0 r15 kb 28 (fW 28 h15)), (kq0 r57 kb 8 (fW 8 h57)), (kr0 q99 kI 40), (kr0 q107 kI 40)] ++ (T9_7)) H := hP
  have hD := fz_sd hP (hD) rfl
  refine lv_aload_n hx hb dX3_init_117 rfl (lv_at hl 0 rfl) ?_
  refine lv_aload_n hx hb dX3_init_118 rfl (lv_at hl 2 rfl) ?_
  refine va_putF (D := (dC, dI)) (ci := 3) (v := .ref (hO 0)) (ty := .object "OptimaWorks$Solver") (C := RX3) (T := TX3) (N := 17) hx hb hts iwsKX3_init_in3 tyX3 tyX3_ok nmX3 hown hK hP hD hS 0 rfl rfl 1 (by decide) (hts (.fieldLink RX3 63 "OptimaWorks$Prover" "solver" "LOptimaWorks$Solver;") (by decide +kernel)) (fun _ h9 => h9) rfl hin rfl (by decide +kernel) rfl rfl (Nat.le_of_ble_eq_true rfl) dX3_init_119 (fun H locs hP hD hS => ?_)
  have hP : va_P (dC, dI) vwCl ([(kc3 (hG 0) (.ref (hM 0)) (.ref (hO 0)) .null (.int 0) (.int 0) (.ref q7) (.ref r15) (.ref q22) (.ref q33) (.ref q44) (.ref r57) (.ref q64) (.ref q75) (.ref q86) (.ref q99) (.ref q107) (.int 0)), (kr0 q7 kZ 28), (kq0 r15 kb 28 (fW 28 h15)), (kq0 r57 kb 8 (fW 8 h57)), (kr0 q99 kI 40), (kr0 q107 kI 40)] ++ (T9_7)) H := hP
  have hD := fz_sd hP (hD) rfl
  subst eT9_7
  subst eT9_6
  subst eT9_5
  subst eT9_4
  subst eT9_3
  subst eT9_2
  subst eT9_1
  subst eT9_0
  obtain ⟨L9, eL9⟩ : ∃ t9 : va_W, t9 = [(kc3 (hG 0) (.ref (hM 0)) (.ref (hO 0)) .null (.int 0) (.int 0) (.ref q7) (.ref r15) (.ref q22) (.ref q33) (.ref q44) (.ref r57) (.ref q64) (.ref q75) (.ref q86) (.ref q99) (.ref q107) (.int 0)), (kr0 q7 kZ 28), (kq0 r15 kb 28 (fW 28 h15)), (kq0 r57 kb 8 (fW 8 h57)), (kr0 q99 kI 40), (kr0 q107 kI 40)] := ⟨_, rfl⟩
  have hP : va_P (dC, dI) vwCl (L9 ++ (WW 1 (fun _ => q86) (fun _ => y86) kw (fun _ => 0) (fun _ => 0) (fun _ _ => 0) ++ (WW 1 (fun _ => q75) (fun _ => y75) kw (fun _ => 0) (fun _ => 0) (fun _ _ => 0) ++ (WW 1 (fun _ => q64) (fun _ => y64) kw (fun _ => 0) (fun _ => 0) (fun _ _ => 0) ++ (WW 8 h57 l57 kw (fun _ => 0) (fun _ => 0) (fun _ _ => 0) ++ (WW 1 (fun _ => q44) (fun _ => y44) kw (fun _ => 0) (fun _ => 0) (fun _ _ => 0) ++ (WW 1 (fun _ => q33) (fun _ => y33) kw (fun _ => 0) (fun _ => 0) (fun _ _ => 0) ++ (WW 1 (fun _ => q22) (fun _ => y22) kw (fun _ => 0) (fun _ => 0) (fun _ _ => 0) ++ (WW 28 h15 l15 kw (fun _ => 0) (fun _ => 0) (fun _ _ => 0) ++ (WO hO aO kO hM hQ hw iO_answered iO_searched iO_searchedRelaxed iO_counted fO_countedCase gO_goalNumber gO_goalScale fO_start fO_column fO_chosen)))))))))) H := by rw [eL9]; exact hP
  have hD : va_D A (L9 ++ (WW 1 (fun _ => q86) (fun _ => y86) kw (fun _ => 0) (fun _ => 0) (fun _ _ => 0) ++ (WW 1 (fun _ => q75) (fun _ => y75) kw (fun _ => 0) (fun _ => 0) (fun _ _ => 0) ++ (WW 1 (fun _ => q64) (fun _ => y64) kw (fun _ => 0) (fun _ => 0) (fun _ _ => 0) ++ (WW 8 h57 l57 kw (fun _ => 0) (fun _ => 0) (fun _ _ => 0) ++ (WW 1 (fun _ => q44) (fun _ => y44) kw (fun _ => 0) (fun _ => 0) (fun _ _ => 0) ++ (WW 1 (fun _ => q33) (fun _ => y33) kw (fun _ => 0) (fun _ => 0) (fun _ _ => 0) ++ (WW 1 (fun _ => q22) (fun _ => y22) kw (fun _ => 0) (fun _ => 0) (fun _ _ => 0) ++ (WW 28 h15 l15 kw (fun _ => 0) (fun _ => 0) (fun _ _ => 0) ++ (WO hO aO kO hM hQ hw iO_answered iO_searched iO_searchedRelaxed iO_counted fO_countedCase gO_goalNumber gO_goalScale fO_start fO_column fO_chosen)))))))))) := by rw [eL9]; exact hD
  have pj := kj_X3_init (WW 1 (fun _ => q86) (fun _ => y86) kw (fun _ => 0) (fun _ => 0) (fun _ _ => 0)) (WW 1 (fun _ => q75) (fun _ => y75) kw (fun _ => 0) (fun _ => 0) (fun _ _ => 0)) (WW 1 (fun _ => q64) (fun _ => y64) kw (fun _ => 0) (fun _ => 0) (fun _ _ => 0)) (WW 8 h57 l57 kw (fun _ => 0) (fun _ => 0) (fun _ _ => 0)) (WW 1 (fun _ => q44) (fun _ => y44) kw (fun _ => 0) (fun _ => 0) (fun _ _ => 0)) (WW 1 (fun _ => q33) (fun _ => y33) kw (fun _ => 0) (fun _ => 0) (fun _ _ => 0)) (WW 1 (fun _ => q22) (fun _ => y22) kw (fun _ => 0) (fun _ => 0) (fun _ _ => 0)) (WW 28 h15 l15 kw (fun _ => 0) (fun _ => 0) (fun _ _ => 0)) (WO hO aO kO hM hQ hw iO_answered iO_searched iO_searchedRelaxed iO_counted fO_countedCase gO_goalNumber gO_goalScale fO_start fO_column fO_chosen)
  have hP := hP.mem (fun q h => (List.Perm.append_left L9 pj).mem_iff.mpr h)
  have hD := hD.perm (List.Perm.append_left L9 pj)
  clear pj
  have pj : List.Perm (α := Nat × va_E) (WO hO aO kO hM hQ hw iO_answered iO_searched iO_searchedRelaxed iO_counted fO_countedCase gO_goalNumber gO_goalScale fO_start fO_column fO_chosen ++ (WW 28 h15 l15 kw (fun _ => 0) (fun _ => 0) (fun _ _ => 0) ++ (WW 1 (fun _ => q22) (fun _ => y22) kw (fun _ => 0) (fun _ => 0) (fun _ _ => 0) ++ (WW 1 (fun _ => q33) (fun _ => y33) kw (fun _ => 0) (fun _ => 0) (fun _ _ => 0) ++ (WW 1 (fun _ => q44) (fun _ => y44) kw (fun _ => 0) (fun _ => 0) (fun _ _ => 0) ++ (WW 8 h57 l57 kw (fun _ => 0) (fun _ => 0) (fun _ _ => 0) ++ (WW 1 (fun _ => q64) (fun _ => y64) kw (fun _ => 0) (fun _ => 0) (fun _ _ => 0) ++ (WW 1 (fun _ => q75) (fun _ => y75) kw (fun _ => 0) (fun _ => 0) (fun _ _ => 0) ++ (WW 1 (fun _ => q86) (fun _ => y86) kw (fun _ => 0) (fun _ => 0) (fun _ _ => 0)))))))))) (WO hO aO kO hM hQ hw iO_answered iO_searched iO_searchedRelaxed iO_counted fO_countedCase gO_goalNumber gO_goalScale fO_start fO_column fO_chosen ++ (WW 29 (jn 28 h15 (fun _ => q22)) (jn 28 l15 (fun _ => y22)) kw (fun _ => 0) (fun _ => 0) (fun _ _ => 0) ++ (WW 1 (fun _ => q33) (fun _ => y33) kw (fun _ => 0) (fun _ => 0) (fun _ _ => 0) ++ (WW 1 (fun _ => q44) (fun _ => y44) kw (fun _ => 0) (fun _ => 0) (fun _ _ => 0) ++ (WW 8 h57 l57 kw (fun _ => 0) (fun _ => 0) (fun _ _ => 0) ++ (WW 1 (fun _ => q64) (fun _ => y64) kw (fun _ => 0) (fun _ => 0) (fun _ _ => 0) ++ (WW 1 (fun _ => q75) (fun _ => y75) kw (fun _ => 0) (fun _ => 0) (fun _ _ => 0) ++ (WW 1 (fun _ => q86) (fun _ => y86) kw (fun _ => 0) (fun _ => 0) (fun _ _ => 0))))))))) := (List.Perm.append_left _ WW_ap2)
  have hP := hP.mem (fun q h => (List.Perm.append_left L9 pj).mem_iff.mpr h)
  have hD := hD.perm (List.Perm.append_left L9 pj)
  clear pj
  have pj : List.Perm (α := Nat × va_E) (WO hO aO kO hM hQ hw iO_answered iO_searched iO_searchedRelaxed iO_counted fO_countedCase gO_goalNumber gO_goalScale fO_start fO_column fO_chosen ++ (WW 29 (jn 28 h15 (fun _ => q22)) (jn 28 l15 (fun _ => y22)) kw (fun _ => 0) (fun _ => 0) (fun _ _ => 0) ++ (WW 1 (fun _ => q33) (fun _ => y33) kw (fun _ => 0) (fun _ => 0) (fun _ _ => 0) ++ (WW 1 (fun _ => q44) (fun _ => y44) kw (fun _ => 0) (fun _ => 0) (fun _ _ => 0) ++ (WW 8 h57 l57 kw (fun _ => 0) (fun _ => 0) (fun _ _ => 0) ++ (WW 1 (fun _ => q64) (fun _ => y64) kw (fun _ => 0) (fun _ => 0) (fun _ _ => 0) ++ (WW 1 (fun _ => q75) (fun _ => y75) kw (fun _ => 0) (fun _ => 0) (fun _ _ => 0) ++ (WW 1 (fun _ => q86) (fun _ => y86) kw (fun _ => 0) (fun _ => 0) (fun _ _ => 0))))))))) (WO hO aO kO hM hQ hw iO_answered iO_searched iO_searchedRelaxed iO_counted fO_countedCase gO_goalNumber gO_goalScale fO_start fO_column fO_chosen ++ (WW 30 (jn 29 (jn 28 h15 (fun _ => q22)) (fun _ => q33)) (jn 29 (jn 28 l15 (fun _ => y22)) (fun _ => y33)) kw (fun _ => 0) (fun _ => 0) (fun _ _ => 0) ++ (WW 1 (fun _ => q44) (fun _ => y44) kw (fun _ => 0) (fun _ => 0) (fun _ _ => 0) ++ (WW 8 h57 l57 kw (fun _ => 0) (fun _ => 0) (fun _ _ => 0) ++ (WW 1 (fun _ => q64) (fun _ => y64) kw (fun _ => 0) (fun _ => 0) (fun _ _ => 0) ++ (WW 1 (fun _ => q75) (fun _ => y75) kw (fun _ => 0) (fun _ => 0) (fun _ _ => 0) ++ (WW 1 (fun _ => q86) (fun _ => y86) kw (fun _ => 0) (fun _ => 0) (fun _ _ => 0)))))))) := (List.Perm.append_left _ WW_ap2)
  have hP := hP.mem (fun q h => (List.Perm.append_left L9 pj).mem_iff.mpr h)
  have hD := hD.perm (List.Perm.append_left L9 pj)
  clear pj
  have pj : List.Perm (α := Nat × va_E) (WO hO aO kO hM hQ hw iO_answered iO_searched iO_searchedRelaxed iO_counted fO_countedCase gO_goalNumber gO_goalScale fO_start fO_column fO_chosen ++ (WW 30 (jn 29 (jn 28 h15 (fun _ => q22)) (fun _ => q33)) (jn 29 (jn 28 l15 (fun _ => y22)) (fun _ => y33)) kw (fun _ => 0) (fun _ => 0) (fun _ _ => 0) ++ (WW 1 (fun _ => q44) (fun _ => y44) kw (fun _ => 0) (fun _ => 0) (fun _ _ => 0) ++ (WW 8 h57 l57 kw (fun _ => 0) (fun _ => 0) (fun _ _ => 0) ++ (WW 1 (fun _ => q64) (fun _ => y64) kw (fun _ => 0) (fun _ => 0) (fun _ _ => 0) ++ (WW 1 (fun _ => q75) (fun _ => y75) kw (fun _ => 0) (fun _ => 0) (fun _ _ => 0) ++ (WW 1 (fun _ => q86) (fun _ => y86) kw (fun _ => 0) (fun _ => 0) (fun _ _ => 0)))))))) (WO hO aO kO hM hQ hw iO_answered iO_searched iO_searchedRelaxed iO_counted fO_countedCase gO_goalNumber gO_goalScale fO_start fO_column fO_chosen ++ (WW 31 (jn 30 (jn 29 (jn 28 h15 (fun _ => q22)) (fun _ => q33)) (fun _ => q44)) (jn 30 (jn 29 (jn 28 l15 (fun _ => y22)) (fun _ => y33)) (fun _ => y44)) kw (fun _ => 0) (fun _ => 0) (fun _ _ => 0) ++ (WW 8 h57 l57 kw (fun _ => 0) (fun _ => 0) (fun _ _ => 0) ++ (WW 1 (fun _ => q64) (fun _ => y64) kw (fun _ => 0) (fun _ => 0) (fun _ _ => 0) ++ (WW 1 (fun _ => q75) (fun _ => y75) kw (fun _ => 0) (fun _ => 0) (fun _ _ => 0) ++ (WW 1 (fun _ => q86) (fun _ => y86) kw (fun _ => 0) (fun _ => 0) (fun _ _ => 0))))))) := (List.Perm.append_left _ WW_ap2)
  have hP := hP.mem (fun q h => (List.Perm.append_left L9 pj).mem_iff.mpr h)
  have hD := hD.perm (List.Perm.append_left L9 pj)
  clear pj
  have pj : List.Perm (α := Nat × va_E) (WO hO aO kO hM hQ hw iO_answered iO_searched iO_searchedRelaxed iO_counted fO_countedCase gO_goalNumber gO_goalScale fO_start fO_column fO_chosen ++ (WW 31 (jn 30 (jn 29 (jn 28 h15 (fun _ => q22)) (fun _ => q33)) (fun _ => q44)) (jn 30 (jn 29 (jn 28 l15 (fun _ => y22)) (fun _ => y33)) (fun _ => y44)) kw (fun _ => 0) (fun _ => 0) (fun _ _ => 0) ++ (WW 8 h57 l57 kw (fun _ => 0) (fun _ => 0) (fun _ _ => 0) ++ (WW 1 (fun _ => q64) (fun _ => y64) kw (fun _ => 0) (fun _ => 0) (fun _ _ => 0) ++ (WW 1 (fun _ => q75) (fun _ => y75) kw (fun _ => 0) (fun _ => 0) (fun _ _ => 0) ++ (WW 1 (fun _ => q86) (fun _ => y86) kw (fun _ => 0) (fun _ => 0) (fun _ _ => 0))))))) (WO hO aO kO hM hQ hw iO_answered iO_searched iO_searchedRelaxed iO_counted fO_countedCase gO_goalNumber gO_goalScale fO_start fO_column fO_chosen ++ (WW 39 (jn 31 (jn 30 (jn 29 (jn 28 h15 (fun _ => q22)) (fun _ => q33)) (fun _ => q44)) h57) (jn 31 (jn 30 (jn 29 (jn 28 l15 (fun _ => y22)) (fun _ => y33)) (fun _ => y44)) l57) kw (fun _ => 0) (fun _ => 0) (fun _ _ => 0) ++ (WW 1 (fun _ => q64) (fun _ => y64) kw (fun _ => 0) (fun _ => 0) (fun _ _ => 0) ++ (WW 1 (fun _ => q75) (fun _ => y75) kw (fun _ => 0) (fun _ => 0) (fun _ _ => 0) ++ (WW 1 (fun _ => q86) (fun _ => y86) kw (fun _ => 0) (fun _ => 0) (fun _ _ => 0)))))) := (List.Perm.append_left _ WW_ap2)
  have hP := hP.mem (fun q h => (List.Perm.append_left L9 pj).mem_iff.mpr h)
  have hD := hD.perm (List.Perm.append_left L9 pj)
  clear pj
  have pj : List.Perm (α := Nat × va_E) (WO hO aO kO hM hQ hw iO_answered iO_searched iO_searchedRelaxed iO_counted fO_countedCase gO_goalNumber gO_goalScale fO_start fO_column fO_chosen ++ (WW 39 (jn 31 (jn 30 (jn 29 (jn 28 h15 (fun _ => q22)) (fun _ => q33)) (fun _ => q44)) h57) (jn 31 (jn 30 (jn 29 (jn 28 l15 (fun _ => y22)) (fun _ => y33)) (fun _ => y44)) l57) kw (fun _ => 0) (fun _ => 0) (fun _ _ => 0) ++ (WW 1 (fun _ => q64) (fun _ => y64) kw (fun _ => 0) (fun _ => 0) (fun _ _ => 0) ++ (WW 1 (fun _ => q75) (fun _ => y75) kw (fun _ => 0) (fun _ => 0) (fun _ _ => 0) ++ (WW 1 (fun _ => q86) (fun _ => y86) kw (fun _ => 0) (fun _ => 0) (fun _ _ => 0)))))) (WO hO aO kO hM hQ hw iO_answered iO_searched iO_searchedRelaxed iO_counted fO_countedCase gO_goalNumber gO_goalScale fO_start fO_column fO_chosen ++ (WW 40 (jn 39 (jn 31 (jn 30 (jn 29 (jn 28 h15 (fun _ => q22)) (fun _ => q33)) (fun _ => q44)) h57) (fun _ => q64)) (jn 39 (jn 31 (jn 30 (jn 29 (jn 28 l15 (fun _ => y22)) (fun _ => y33)) (fun _ => y44)) l57) (fun _ => y64)) kw (fun _ => 0) (fun _ => 0) (fun _ _ => 0) ++ (WW 1 (fun _ => q75) (fun _ => y75) kw (fun _ => 0) (fun _ => 0) (fun _ _ => 0) ++ (WW 1 (fun _ => q86) (fun _ => y86) kw (fun _ => 0) (fun _ => 0) (fun _ _ => 0))))) := (List.Perm.append_left _ WW_ap2)
  have hP := hP.mem (fun q h => (List.Perm.append_left L9 pj).mem_iff.mpr h)
  have hD := hD.perm (List.Perm.append_left L9 pj)
  clear pj
  have pj : List.Perm (α := Nat × va_E) (WO hO aO kO hM hQ hw iO_answered iO_searched iO_searchedRelaxed iO_counted fO_countedCase gO_goalNumber gO_goalScale fO_start fO_column fO_chosen ++ (WW 40 (jn 39 (jn 31 (jn 30 (jn 29 (jn 28 h15 (fun _ => q22)) (fun _ => q33)) (fun _ => q44)) h57) (fun _ => q64)) (jn 39 (jn 31 (jn 30 (jn 29 (jn 28 l15 (fun _ => y22)) (fun _ => y33)) (fun _ => y44)) l57) (fun _ => y64)) kw (fun _ => 0) (fun _ => 0) (fun _ _ => 0) ++ (WW 1 (fun _ => q75) (fun _ => y75) kw (fun _ => 0) (fun _ => 0) (fun _ _ => 0) ++ (WW 1 (fun _ => q86) (fun _ => y86) kw (fun _ => 0) (fun _ => 0) (fun _ _ => 0))))) (WO hO aO kO hM hQ hw iO_answered iO_searched iO_searchedRelaxed iO_counted fO_countedCase gO_goalNumber gO_goalScale fO_start fO_column fO_chosen ++ (WW 41 (jn 40 (jn 39 (jn 31 (jn 30 (jn 29 (jn 28 h15 (fun _ => q22)) (fun _ => q33)) (fun _ => q44)) h57) (fun _ => q64)) (fun _ => q75)) (jn 40 (jn 39 (jn 31 (jn 30 (jn 29 (jn 28 l15 (fun _ => y22)) (fun _ => y33)) (fun _ => y44)) l57) (fun _ => y64)) (fun _ => y75)) kw (fun _ => 0) (fun _ => 0) (fun _ _ => 0) ++ (WW 1 (fun _ => q86) (fun _ => y86) kw (fun _ => 0) (fun _ => 0) (fun _ _ => 0)))) := (List.Perm.append_left _ WW_ap2)
  have hP := hP.mem (fun q h => (List.Perm.append_left L9 pj).mem_iff.mpr h)
  have hD := hD.perm (List.Perm.append_left L9 pj)
  clear pj
  have pj : List.Perm (α := Nat × va_E) (WO hO aO kO hM hQ hw iO_answered iO_searched iO_searchedRelaxed iO_counted fO_countedCase gO_goalNumber gO_goalScale fO_start fO_column fO_chosen ++ (WW 41 (jn 40 (jn 39 (jn 31 (jn 30 (jn 29 (jn 28 h15 (fun _ => q22)) (fun _ => q33)) (fun _ => q44)) h57) (fun _ => q64)) (fun _ => q75)) (jn 40 (jn 39 (jn 31 (jn 30 (jn 29 (jn 28 l15 (fun _ => y22)) (fun _ => y33)) (fun _ => y44)) l57) (fun _ => y64)) (fun _ => y75)) kw (fun _ => 0) (fun _ => 0) (fun _ _ => 0) ++ (WW 1 (fun _ => q86) (fun _ => y86) kw (fun _ => 0) (fun _ => 0) (fun _ _ => 0)))) (WO hO aO kO hM hQ hw iO_answered iO_searched iO_searchedRelaxed iO_counted fO_countedCase gO_goalNumber gO_goalScale fO_start fO_column fO_chosen ++ (WW 42 (jn 41 (jn 40 (jn 39 (jn 31 (jn 30 (jn 29 (jn 28 h15 (fun _ => q22)) (fun _ => q33)) (fun _ => q44)) h57) (fun _ => q64)) (fun _ => q75)) (fun _ => q86)) (jn 41 (jn 40 (jn 39 (jn 31 (jn 30 (jn 29 (jn 28 l15 (fun _ => y22)) (fun _ => y33)) (fun _ => y44)) l57) (fun _ => y64)) (fun _ => y75)) (fun _ => y86)) kw (fun _ => 0) (fun _ => 0) (fun _ _ => 0))) := (List.Perm.append_left _ WW_app)
  have hP := hP.mem (fun q h => (List.Perm.append_left L9 pj).mem_iff.mpr h)
  have hD := hD.perm (List.Perm.append_left L9 pj)
  clear pj
  subst eL9
  obtain ⟨hF, hFe⟩ : ∃ f9, f9 = jn 41 (jn 40 (jn 39 (jn 31 (jn 30 (jn 29 (jn 28 h15 (fun _ => q22)) (fun _ => q33)) (fun _ => q44)) h57) (fun _ => q64)) (fun _ => q75)) (fun _ => q86) := ⟨_, rfl⟩
  obtain ⟨lF, hLe⟩ : ∃ f9, f9 = jn 41 (jn 40 (jn 39 (jn 31 (jn 30 (jn 29 (jn 28 l15 (fun _ => y22)) (fun _ => y33)) (fun _ => y44)) l57) (fun _ => y64)) (fun _ => y75)) (fun _ => y86) := ⟨_, rfl⟩
  rw [← hFe, ← hLe] at hP hD
  have hc0 : ∀ j, j < 28 → h15 j = jn 432 hw hF (432 + j) := fun j hj => by rw [jn_r, hFe, jn_l (by omega), jn_l (by omega), jn_l (by omega), jn_l (by omega), jn_l (by omega), jn_l (by omega), jn_l (by omega)]
  have hc4 : ∀ j, j < 8 → h57 j = jn 432 hw hF (463 + j) := fun j hj => by rw [show 463 + j = 432 + (31 + j) by omega, jn_r, hFe, jn_l (by omega), jn_l (by omega), jn_l (by omega), jn_r]
  have hq22 : q22 = jn 432 hw hF 460 := by rw [hFe]; rfl
  have hq33 : q33 = jn 432 hw hF 461 := by rw [hFe]; rfl
  have hq44 : q44 = jn 432 hw hF 462 := by rw [hFe]; rfl
  have hq64 : q64 = jn 432 hw hF 471 := by rw [hFe]; rfl
  have hq75 : q75 = jn 432 hw hF 472 := by rw [hFe]; rfl
  have hq86 : q86 = jn 432 hw hF 473 := by rw [hFe]; rfl
  clear hFe hLe
  refine lv_aload_n hx hb dX3_init_122 rfl (lv_at hl 0 rfl) ?_
  refine lv_aload_n hx hb dX3_init_123 rfl (lv_at hl 2 rfl) ?_
  refine va_get (D := (dC, dI)) (ci := 5) (v := .ref (hQ 0)) (C := RX5) (T := TX5) (N := 19) hx hb hts iwsKX3_init_in5 hown hK hP 6 rfl rfl 1 (by decide) (hts (.fieldLink RX3 67 "OptimaWorks$Solver" "tableau" "LOptimaWorks$Tableau;") (by decide +kernel)) (fun _ h9 => h9) rfl dX3_init_124 ?_
  refine va_putF (D := (dC, dI)) (ci := 3) (v := .ref (hQ 0)) (ty := .object "OptimaWorks$Tableau") (C := RX3) (T := TX3) (N := 17) hx hb hts iwsKX3_init_in3 tyX3 tyX3_ok nmX3 hown hK hP hD hS 0 rfl rfl 2 (by decide) (hts (.fieldLink RX3 71 "OptimaWorks$Prover" "tableau" "LOptimaWorks$Tableau;") (by decide +kernel)) (fun _ h9 => h9) rfl hin rfl (by decide +kernel) rfl rfl (Nat.le_of_ble_eq_true rfl) dX3_init_127 (fun H locs hP hD hS => ?_)
  have hP : va_P (dC, dI) vwCl ([(kc3 (hG 0) (.ref (hM 0)) (.ref (hO 0)) (.ref (hQ 0)) (.int 0) (.int 0) (.ref q7) (.ref r15) (.ref q22) (.ref q33) (.ref q44) (.ref r57) (.ref q64) (.ref q75) (.ref q86) (.ref q99) (.ref q107) (.int 0)), (kr0 q7 kZ 28), (kq0 r15 kb 28 (fW 28 h15)), (kq0 r57 kb 8 (fW 8 h57)), (kr0 q99 kI 40), (kr0 q107 kI 40)] ++ (WO hO aO kO hM hQ hw iO_answered iO_searched iO_searchedRelaxed iO_counted fO_countedCase gO_goalNumber gO_goalScale fO_start fO_column fO_chosen ++ (WW 42 hF lF kw (fun _ => 0) (fun _ => 0) (fun _ _ => 0)))) H := hP
  have hD := fz_sd hP (hD) rfl
  have hP := va_P.cg (X := [(kc3 (hG 0) (.ref (hM 0)) (.ref (hO 0)) (.ref (hQ 0)) (.int 0) (.int 0) (.ref q7) (.ref r15) (.ref q22) (.ref q33) (.ref q44) (.ref r57) (.ref q64) (.ref q75) (.ref q86) (.ref q99) (.ref q107) (.int 0)), (kr0 q7 kZ 28)]) (Y := [(kq0 r57 kb 8 (fW 8 h57)), (kr0 q99 kI 40), (kr0 q107 kI 40)] ++ (WO hO aO kO hM hQ hw iO_answered iO_searched iO_searchedRelaxed iO_counted fO_countedCase gO_goalNumber gO_goalScale fO_start fO_column fO_chosen ++ (WW 42 hF lF kw (fun _ => 0) (fun _ => 0) (fun _ _ => 0)))) hP (fW_all (g := fun q => jn 432 hw hF (432 + q)) hc0)
  have hD : va_D A ([(kc3 (hG 0) (.ref (hM 0)) (.ref (hO 0)) (.ref (hQ 0)) (.int 0) (.int 0) (.ref q7) (.ref r15) (.ref q22) (.ref q33) (.ref q44) (.ref r57) (.ref q64) (.ref q75) (.ref q86) (.ref q99) (.ref q107) (.int 0)), (kr0 q7 kZ 28), (r15, .inl (kb, 28, .inr (.inr (.inr (.inr (fun q => some (jn 432 hw hF (432 + q)))))))), (kq0 r57 kb 8 (fW 8 h57)), (kr0 q99 kI 40), (kr0 q107 kI 40)] ++ (WO hO aO kO hM hQ hw iO_answered iO_searched iO_searchedRelaxed iO_counted fO_countedCase gO_goalNumber gO_goalScale fO_start fO_column fO_chosen ++ (WW 42 hF lF kw (fun _ => 0) (fun _ => 0) (fun _ _ => 0)))) := va_D.cg (X := [(kc3 (hG 0) (.ref (hM 0)) (.ref (hO 0)) (.ref (hQ 0)) (.int 0) (.int 0) (.ref q7) (.ref r15) (.ref q22) (.ref q33) (.ref q44) (.ref r57) (.ref q64) (.ref q75) (.ref q86) (.ref q99) (.ref q107) (.int 0)), (kr0 q7 kZ 28)]) (Y := [(kq0 r57 kb 8 (fW 8 h57)), (kr0 q99 kI 40), (kr0 q107 kI 40)] ++ (WO hO aO kO hM hQ hw iO_answered iO_searched iO_searchedRelaxed iO_counted fO_countedCase gO_goalNumber gO_goalScale fO_start fO_column fO_chosen ++ (WW 42 hF lF kw (fun _ => 0) (fun _ => 0) (fun _ _ => 0)))) hD
  have hP : va_P (dC, dI) vwCl ([(kc3 (hG 0) (.ref (hM 0)) (.ref (hO 0)) (.ref (hQ 0)) (.int 0) (.int 0) (.ref q7) (.ref r15) (.ref q22) (.ref q33) (.ref q44) (.ref r57) (.ref q64) (.ref q75) (.ref q86) (.ref q99) (.ref q107) (.int 0)), (kr0 q7 kZ 28), (r15, .inl (kb, 28, .inr (.inr (.inr (.inr (fun q => some (jn 432 hw hF (432 + q)))))))), (kq0 r57 kb 8 (fW 8 h57)), (kr0 q99 kI 40), (kr0 q107 kI 40)] ++ (WO hO aO kO hM hQ hw iO_answered iO_searched iO_searchedRelaxed iO_counted fO_countedCase gO_goalNumber gO_goalScale fO_start fO_column fO_chosen ++ (WW 42 hF lF kw (fun _ => 0) (fun _ => 0) (fun _ _ => 0)))) H := hP
  have hP := va_P.cg (X := [(kc3 (hG 0) (.ref (hM 0)) (.ref (hO 0)) (.ref (hQ 0)) (.int 0) (.int 0) (.ref q7) (.ref r15) (.ref q22) (.ref q33) (.ref q44) (.ref r57) (.ref q64) (.ref q75) (.ref q86) (.ref q99) (.ref q107) (.int 0)), (kr0 q7 kZ 28), (r15, .inl (kb, 28, .inr (.inr (.inr (.inr (fun q => some (jn 432 hw hF (432 + q))))))))]) (Y := [(kr0 q99 kI 40), (kr0 q107 kI 40)] ++ (WO hO aO kO hM hQ hw iO_answered iO_searched iO_searchedRelaxed iO_counted fO_countedCase gO_goalNumber gO_goalScale fO_start fO_column fO_chosen ++ (WW 42 hF lF kw (fun _ => 0) (fun _ => 0) (fun _ _ => 0)))) hP (fW_all (g := fun q => jn 432 hw hF (463 + q)) hc4)
  have hD : va_D A ([(kc3 (hG 0) (.ref (hM 0)) (.ref (hO 0)) (.ref (hQ 0)) (.int 0) (.int 0) (.ref q7) (.ref r15) (.ref q22) (.ref q33) (.ref q44) (.ref r57) (.ref q64) (.ref q75) (.ref q86) (.ref q99) (.ref q107) (.int 0)), (kr0 q7 kZ 28), (r15, .inl (kb, 28, .inr (.inr (.inr (.inr (fun q => some (jn 432 hw hF (432 + q)))))))), (r57, .inl (kb, 8, .inr (.inr (.inr (.inr (fun q => some (jn 432 hw hF (463 + q)))))))), (kr0 q99 kI 40), (kr0 q107 kI 40)] ++ (WO hO aO kO hM hQ hw iO_answered iO_searched iO_searchedRelaxed iO_counted fO_countedCase gO_goalNumber gO_goalScale fO_start fO_column fO_chosen ++ (WW 42 hF lF kw (fun _ => 0) (fun _ => 0) (fun _ _ => 0)))) := va_D.cg (X := [(kc3 (hG 0) (.ref (hM 0)) (.ref (hO 0)) (.ref (hQ 0)) (.int 0) (.int 0) (.ref q7) (.ref r15) (.ref q22) (.ref q33) (.ref q44) (.ref r57) (.ref q64) (.ref q75) (.ref q86) (.ref q99) (.ref q107) (.int 0)), (kr0 q7 kZ 28), (r15, .inl (kb, 28, .inr (.inr (.inr (.inr (fun q => some (jn 432 hw hF (432 + q))))))))]) (Y := [(kr0 q99 kI 40), (kr0 q107 kI 40)] ++ (WO hO aO kO hM hQ hw iO_answered iO_searched iO_searchedRelaxed iO_counted fO_countedCase gO_goalNumber gO_goalScale fO_start fO_column fO_chosen ++ (WW 42 hF lF kw (fun _ => 0) (fun _ => 0) (fun _ _ => 0)))) hD
  have hP : va_P (dC, dI) vwCl ([(kc3 (hG 0) (.ref (hM 0)) (.ref (hO 0)) (.ref (hQ 0)) (.int 0) (.int 0) (.ref q7) (.ref r15) (.ref q22) (.ref q33) (.ref q44) (.ref r57) (.ref q64) (.ref q75) (.ref q86) (.ref q99) (.ref q107) (.int 0)), (kr0 q7 kZ 28), (r15, .inl (kb, 28, .inr (.inr (.inr (.inr (fun q => some (jn 432 hw hF (432 + q)))))))), (r57, .inl (kb, 8, .inr (.inr (.inr (.inr (fun q => some (jn 432 hw hF (463 + q)))))))), (kr0 q99 kI 40), (kr0 q107 kI 40)] ++ (WO hO aO kO hM hQ hw iO_answered iO_searched iO_searchedRelaxed iO_counted fO_countedCase gO_goalNumber gO_goalScale fO_start fO_column fO_chosen ++ (WW 42 hF lF kw (fun _ => 0) (fun _ => 0) (fun _ _ => 0)))) H := hP
  rw [hq22] at hP hD
  rw [hq33] at hP hD
  rw [hq44] at hP hD
  rw [hq64] at hP hD
  rw [hq75] at hP hD
  rw [hq86] at hP hD
  refine W.widen (k := 89) (n := 858) (by omega) (by omega) ?_
  exact W.vret hx hb hr (fun t ht hW => ⟨⟨((fun j => ([q7, r15, r57, q99, q107] : List Nat).getD j 0), hF, lF), rfl, trivial, by rw [ht]; exact hP, hD⟩, hS.F ht⟩) hS.2.2 dX3_init_130
set_option maxHeartbeats 4000000 in
set_option maxRecDepth 100000 in
/-- a prover, its whole numbers -/
theorem k_X3_init (l : Launch) (dC : Nat → ClassId) (dI : Nat → Nat → Nat) (hG hM hO aO hQ hw : Nat → Nat) (kG kO : Nat → ClassId) (kw : ClassId) (iO_answered : Int32) (iO_searched : Int32) (iO_searchedRelaxed : Int32) (iO_counted : Int32) (fO_countedCase : Nat → Int32) (gO_goalNumber : Nat → Int64) (gO_goalScale : Nat → Int64) (fO_start : Nat → Int32) (fO_column : Nat → Int32) (fO_chosen : Nat → Int32) (sz : Nat) : Met l yX3_init wsKX3_init ({ frames := 4, cells := 89, slots := 858, locals := 62 }) (va_Pc [.ref (hG 0), .ref (hM 0), .ref (hO 0)] (fun U => U.heap.size = sz ∧ va_P (dC, dI) vwCl ([(hG 0, .inr (3, [.null, .null, .null, .int 0, .int 0, .null, .null, .null, .null, .null, .null, .null, .null, .null, .null, .null, .int 0]))] ++ (WO hO aO kO hM hQ hw iO_answered iO_searched iO_searchedRelaxed iO_counted fO_countedCase gO_goalNumber gO_goalScale fO_start fO_column fO_chosen)) U.heap ∧ va_K (dC, dI) vwCl (tG kG ++ (tO kO ++ (tW kw))) U ∧ va_D (fun _ => True) ([(hG 0, .inr (3, [.null, .null, .null, .int 0, .int 0, .null, .null, .null, .null, .null, .null, .null, .null, .null, .null, .null, .int 0]))] ++ (WO hO aO kO hM hQ hw iO_answered iO_searched iO_searchedRelaxed iO_counted fO_countedCase gO_goalNumber gO_goalScale fO_start fO_column fO_chosen)) ∧ CE (va_A ([(hG 0, .inr (3, [.null, .null, .null, .int 0, .int 0, .null, .null, .null, .null, .null, .null, .null, .null, .null, .null, .null, .int 0]))] ++ (WO hO aO kO hM hQ hw iO_answered iO_searched iO_searchedRelaxed iO_counted fO_countedCase gO_goalNumber gO_goalScale fO_start fO_column fO_chosen)) sz) U U.heap)) (va_Qv (fun _ : (Nat → Nat) × (Nat → Nat) × (Nat → Nat) => True) (fun u t => va_P (dC, dI) vwCl (WG hG u.1 kG hM hO hQ (jn 432 hw u.2.1) 0 0 (fun _ => 0) (fun _ => 0) (fun _ => 0) 0 ++ (WO hO aO kO hM hQ hw iO_answered iO_searched iO_searchedRelaxed iO_counted fO_countedCase gO_goalNumber gO_goalScale fO_start fO_column fO_chosen ++ (WW 42 u.2.1 u.2.2 kw (fun _ => 0) (fun _ => 0) (fun _ _ => 0)))) t.heap ∧ va_D (va_A ([(hG 0, .inr (3, [.null, .null, .null, .int 0, .int 0, .null, .null, .null, .null, .null, .null, .null, .null, .null, .null, .null, .int 0]))] ++ (WO hO aO kO hM hQ hw iO_answered iO_searched iO_searchedRelaxed iO_counted fO_countedCase gO_goalNumber gO_goalScale fO_start fO_column fO_chosen)) sz) (WG hG u.1 kG hM hO hQ (jn 432 hw u.2.1) 0 0 (fun _ => 0) (fun _ => 0) (fun _ => 0) 0 ++ (WO hO aO kO hM hQ hw iO_answered iO_searched iO_searchedRelaxed iO_counted fO_countedCase gO_goalNumber gO_goalScale fO_start fO_column fO_chosen ++ (WW 42 u.2.1 u.2.2 kw (fun _ => 0) (fun _ => 0) (fun _ _ => 0))))) (va_A ([(hG 0, .inr (3, [.null, .null, .null, .int 0, .int 0, .null, .null, .null, .null, .null, .null, .null, .null, .null, .null, .null, .int 0]))] ++ (WO hO aO kO hM hQ hw iO_answered iO_searched iO_searchedRelaxed iO_counted fO_countedCase gO_goalNumber gO_goalScale fO_start fO_column fO_chosen)) sz)) 89 858 (va_A ([(hG 0, .inr (3, [.null, .null, .null, .int 0, .int 0, .null, .null, .null, .null, .null, .null, .null, .null, .null, .null, .null, .int 0]))] ++ (WO hO aO kO hM hQ hw iO_answered iO_searched iO_searchedRelaxed iO_counted fO_countedCase gO_goalNumber gO_goalScale fO_start fO_column fO_chosen)) sz) := by
  refine Met.ad (kl_X3_init l dC dI hG hM hO aO hQ hw kO iO_answered iO_searched iO_searchedRelaxed iO_counted fO_countedCase gO_goalNumber gO_goalScale fO_start fO_column fO_chosen (kG 1) kw (kG 3) (kG 0) sz) (fun _ h => h) ⟨Nat.le_refl _, Nat.le_refl _, Nat.le_refl _, Nat.le_refl _⟩ (Nat.le_refl _) (Nat.le_refl _) (fun a U h => ⟨h.1, h.2.1, h.2.2.1, h.2.2.2.1.sub [1, 15, 3, 0] rfl, h.2.2.2.2⟩) (fun a st o t hP0 hvm _ _ hQ9 => ?_) (fun _ h => h)
  obtain ⟨⟨⟨aG, h42, l42⟩, e1, _, hP1, hD1⟩, hF⟩ := hQ9
  have hK0 := hP0.2.2.2.1
  dsimp only at hP1 hD1
  rw [WG_k (k := fun j => ([kG 0, kG 1, kG 1, kG 3, kG 3] : List ClassId).getD j (kG 1)) (k9 := kG) rfl rfl (va_K.cl2 hK0 hK0 (i := 1) (j := 2) rfl rfl) rfl (va_K.cl2 hK0 hK0 (i := 3) (j := 4) rfl rfl)] at hP1 hD1
  exact ⟨⟨(aG, h42, l42), e1, trivial, hP1, hD1⟩, hF⟩
end
section
/-! how much a method has made, where it throws -/
theorem W.xsz {p : Program} {l : Launch} {e : Env} {R : Room} {s : State} {m : MethodId} {args : Array Value} {below : List Frame} {meth : Method} {c : Code} {H : Heap} {locs : List Loc} {cells slots : Nat} {g : JFrame} {Qc : Array Value → State → Outcome → State → Prop} {XC XC1 : String → State → State → Prop} {mc ms mc1 ms1 : Nat} {free : Addr → Prop} (h1 : mc1 ≤ mc) (h2 : ms1 ≤ ms)
    (hX : ∀ E t, XC1 E s t → t.heap.size ≤ s.heap.size + mc1 → nS s.heap.size t.heap ≤ ms1 → XC E s t) (k : W p l e R s m args below meth c H locs cells slots (vx_MQ below Qc XC1 args s mc1 ms1 free) g) : W p l e R s m args below meth c H locs cells slots (vx_MQ below Qc XC args s mc ms free) g := by
  intro T hT X
  obtain ⟨t, a1, o, b1, b2, b3⟩ := k T hT X
  refine ⟨t, a1, o, b1, b2, ?_⟩
  rcases b3 with ⟨q4, L, q5, q6⟩ | ⟨q, q4, E, ce, L, r1, r2, r3, r4, r5, r6, r7⟩
  · exact Or.inl ⟨q4, L, ⟨q5.1, q5.2.1, q5.2.2.mono h1 h2⟩, q6⟩
  · exact Or.inr ⟨q, q4, E, ce, L, hX _ _ r1 r6.2.2.1 (by unfold nS; exact r6.2.2.2.2.1), r2, r3, r4, r5, r6.mono h1 h2, r7⟩
theorem vx_known {p : Program} {l : Launch} {e : Env} {R : Room} {s : State} {m : MethodId} {args : Array Value} {below : List Frame} {meth : Method} {c : Code} {H : Heap} {locs : List Loc} {cells slots : Nat} {Q : State → Prop} {g : JFrame} {q : Addr}
    (k : H.size ≤ s.heap.size + cells → nS s.heap.size H ≤ slots → vx_W p l e R s m args below meth c H locs cells slots Q g q) : vx_W p l e R s m args below meth c H locs cells slots Q g q := fun T hT X => by
  have h := X.same
  have e1 : (T.setVm s.vm).heap = H := hT
  exact k (by rw [← e1]; exact h.2.2.1) (by unfold nS; rw [← e1]; exact h.2.2.2.2.1) T hT X
end
section
def WX (hX : Nat → Nat) (aX : Nat → Nat) (kX : Nat → ClassId) (hT : Nat → Nat) (hM : Nat → Nat) (fX_ready : Nat → Int32) (fX_sheet : Nat → Int32) (dX_sheet : Nat) (nX_sheet : Nat) (iX_sheetLength : Int32) (xX_reader : Value) (xX_solver : Value) (xX_prover : Value) (xX_values : Value) (xX_clauses : Value) (xX_nets : Value) : va_W := [(hX 0, .inr (11, [.ref (aX 0), .ref (hT 0), .ref (hM 0), .ref dX_sheet, .int iX_sheetLength, xX_reader, xX_solver, xX_prover, xX_values, xX_clauses, xX_nets])), (aX 0, .inl (kX 0, 5, .inl fX_ready)), (dX_sheet, .inl (kX 1, nX_sheet, .inl fX_sheet))]
def tX (kX : Nat → ClassId) : List (ClassId × FieldType) := [(kX 0, .int), (kX 1, .byte)]
theorem dX11_put_0 : decode cX11_put 0 = .ok (.aload_n 0, 1) := dk_42 (by decide +kernel)
theorem dX11_put_1 : decode cX11_put 1 = .ok (.getfield 138, 3) := dk_180 (by decide +kernel)
theorem dX11_put_4 : decode cX11_put 4 = .ok (.sipush 30000, 3) := dk_17 (by decide +kernel)
theorem dX11_put_7 : decode cX11_put 7 = .ok (.if_icmp .lt 4, 3) := dk_161 (by decide +kernel)
theorem dX11_put_10 : decode cX11_put 10 = .ok (.return_, 1) := dk_177 (by decide +kernel)
theorem dX11_put_11 : decode cX11_put 11 = .ok (.aload_n 0, 1) := dk_42 (by decide +kernel)
theorem dX11_put_12 : decode cX11_put 12 = .ok (.getfield 138, 3) := dk_180 (by decide +kernel)
theorem dX11_put_15 : decode cX11_put 15 = .ok (.aload_n 0, 1) := dk_42 (by decide +kernel)
theorem dX11_put_16 : decode cX11_put 16 = .ok (.getfield 27, 3) := dk_180 (by decide +kernel)
theorem dX11_put_19 : decode cX11_put 19 = .ok (.arraylength, 1) := dk_190 (by decide +kernel)
theorem dX11_put_20 : decode cX11_put 20 = .ok (.if_icmp .lt 21, 3) := dk_161 (by decide +kernel)
theorem dX11_put_23 : decode cX11_put 23 = .ok (.aload_n 0, 1) := dk_42 (by decide +kernel)
theorem dX11_put_24 : decode cX11_put 24 = .ok (.aload_n 0, 1) := dk_42 (by decide +kernel)
theorem dX11_put_25 : decode cX11_put 25 = .ok (.getfield 27, 3) := dk_180 (by decide +kernel)
theorem dX11_put_28 : decode cX11_put 28 = .ok (.aload_n 0, 1) := dk_42 (by decide +kernel)
theorem dX11_put_29 : decode cX11_put 29 = .ok (.getfield 27, 3) := dk_180 (by decide +kernel)
theorem dX11_put_32 : decode cX11_put 32 = .ok (.arraylength, 1) := dk_190 (by decide +kernel)
theorem dX11_put_33 : decode cX11_put 33 = .ok (.iconst 2, 1) := dk_5 (by decide +kernel)
theorem dX11_put_34 : decode cX11_put 34 = .ok (.imul, 1) := dk_104 (by decide +kernel)
theorem dX11_put_35 : decode cX11_put 35 = .ok (.invokestatic 230, 3) := dk_184 (by decide +kernel)
theorem dX11_put_38 : decode cX11_put 38 = .ok (.putfield 27, 3) := dk_181 (by decide +kernel)
theorem dX11_put_41 : decode cX11_put 41 = .ok (.aload_n 0, 1) := dk_42 (by decide +kernel)
theorem dX11_put_42 : decode cX11_put 42 = .ok (.getfield 27, 3) := dk_180 (by decide +kernel)
theorem dX11_put_45 : decode cX11_put 45 = .ok (.aload_n 0, 1) := dk_42 (by decide +kernel)
theorem dX11_put_46 : decode cX11_put 46 = .ok (.getfield 138, 3) := dk_180 (by decide +kernel)
theorem dX11_put_49 : decode cX11_put 49 = .ok (.iload_n 1, 1) := dk_27 (by decide +kernel)
theorem dX11_put_50 : decode cX11_put 50 = .ok (.i2b, 1) := dk_145 (by decide +kernel)
theorem dX11_put_51 : decode cX11_put 51 = .ok (.bastore, 1) := dk_84 (by decide +kernel)
theorem dX11_put_52 : decode cX11_put 52 = .ok (.aload_n 0, 1) := dk_42 (by decide +kernel)
theorem dX11_put_53 : decode cX11_put 53 = .ok (.dup, 1) := dk_89 (by decide +kernel)
theorem dX11_put_54 : decode cX11_put 54 = .ok (.getfield 138, 3) := dk_180 (by decide +kernel)
theorem dX11_put_57 : decode cX11_put 57 = .ok (.iconst 1, 1) := dk_4 (by decide +kernel)
theorem dX11_put_58 : decode cX11_put 58 = .ok (.iadd, 1) := dk_96 (by decide +kernel)
theorem dX11_put_59 : decode cX11_put 59 = .ok (.putfield 138, 3) := dk_181 (by decide +kernel)
theorem dX11_put_62 : decode cX11_put 62 = .ok (.return_, 1) := dk_177 (by decide +kernel)
def wsMX11_put : List Cond := .code yX11_put cX11_put 2 none :: ([.fieldLink RX11 138 "OptimaWorks" "sheetLength" "I", .fieldLink RX11 27 "OptimaWorks" "sheet" "[B"] ++ wsX110 ++ (va_wsS RX11 230 yJ7_copyOf_9075b wsMJ7_copyOf_9075b))
theorem iwsMX11_put_in11 : ∀ w ∈ wsX110, w ∈ wsMX11_put := fun _ h => List.mem_cons_of_mem _ (List.mem_append_left _ (List.mem_append_right _ h))
theorem gwsMX11_put_0 : GoodIn wsMX11_put (va_wsS RX11 230 yJ7_copyOf_9075b wsMJ7_copyOf_9075b) := goodIn_sub (fun _ h => List.mem_cons_of_mem _ (List.mem_append_right _ h)) (gdS (by decide +kernel) gdwsMJ7_copyOf_9075b)
theorem gdwsMX11_put : wsMX11_put.all goodWord = true := gdC rfl (gdA (gdA (by decide +kernel : ([.fieldLink RX11 138 "OptimaWorks" "sheetLength" "I", .fieldLink RX11 27 "OptimaWorks" "sheet" "[B"] : List Cond).all goodWord = true) gdwsX110) (gdS (by decide +kernel) gdwsMJ7_copyOf_9075b))
theorem hm_m_X11_put_0 : (.fieldLink RX11 138 "OptimaWorks" "sheetLength" "I" : Cond) ∈ wsMX11_put := by decide +kernel
theorem hm_m_X11_put_1 : (.fieldLink RX11 27 "OptimaWorks" "sheet" "[B" : Cond) ∈ wsMX11_put := by decide +kernel
set_option maxHeartbeats 4000000 in
set_option maxRecDepth 100000 in
/-- a letter more -/
theorem m_X11_put (l : Launch) (dC : Nat → ClassId) (dI : Nat → Nat → Nat) (hX : Nat → Nat) (aX : Nat → Nat) (kX : Nat → ClassId) (hT : Nat → Nat) (hM : Nat → Nat) (fX_ready : Nat → Int32) (fX_sheet : Nat → Int32) (dX_sheet : Nat) (nX_sheet : Nat) (iX_sheetLength : Int32) (xX_reader : Value) (xX_solver : Value) (xX_prover : Value) (xX_values : Value) (xX_clauses : Value) (xX_nets : Value) (p1 : Int32) (b_fX_sheet : ∀ q : Nat, (-128) ≤ (fX_sheet q).toInt ∧ (fX_sheet q).toInt ≤ 127) (b_nX_sheet : 64 ≤ nX_sheet ∧ nX_sheet ≤ 60000) (b_iX_sheetLength : 0 ≤ iX_sheetLength.toInt ∧ iX_sheetLength.toInt ≤ 30000) (b_shl : iX_sheetLength.toInt ≤ ((nX_sheet : Nat) : Int)) (sz : Nat) : Met l yX11_put wsMX11_put ({ frames := 2, cells := 1876, slots := 180000, locals := 40 }) (va_Pc [.ref (hX 0), .int p1] (fun U => U.heap.size = sz ∧ va_P (dC, dI) vwCl (WX hX aX kX hT hM fX_ready fX_sheet dX_sheet nX_sheet iX_sheetLength xX_reader xX_solver xX_prover xX_values xX_clauses xX_nets) U.heap ∧ va_K (dC, dI) vwCl (tX kX) U ∧ va_D (fun _ => True) (WX hX aX kX hT hM fX_ready fX_sheet dX_sheet nX_sheet iX_sheetLength xX_reader xX_solver xX_prover xX_values xX_clauses xX_nets))) (va_Qv (fun (u : (Nat → Int32) × (Nat) × (Nat) × (Int32)) => (∀ q : Nat, (-128) ≤ ((u.1) q).toInt ∧ ((u.1) q).toInt ≤ 127) ∧ (64 ≤ (u.2.2.1) ∧ (u.2.2.1) ≤ 60000) ∧ (0 ≤ (u.2.2.2).toInt ∧ (u.2.2.2).toInt ≤ 30000) ∧ ((u.2.2.2).toInt ≤ (((u.2.2.1) : Nat) : Int)) ∧ (nX_sheet ≤ (u.2.2.1)) ∧ (iX_sheetLength.toInt ≤ (u.2.2.2).toInt)) (fun (u : (Nat → Int32) × (Nat) × (Nat) × (Int32)) t => va_P (dC, dI) vwCl (WX hX aX kX hT hM fX_ready (u.1) (u.2.1) (u.2.2.1) (u.2.2.2) xX_reader xX_solver xX_prover xX_values xX_clauses xX_nets) t.heap ∧ va_D (va_A (WX hX aX kX hT hM fX_ready fX_sheet dX_sheet nX_sheet iX_sheetLength xX_reader xX_solver xX_prover xX_values xX_clauses xX_nets) sz) (WX hX aX kX hT hM fX_ready (u.1) (u.2.1) (u.2.2.1) (u.2.2.2) xX_reader xX_solver xX_prover xX_values xX_clauses xX_nets) ∧ t.heap.size + (nX_sheet / 32) ≤ sz + ((u.2.2.1) / 32) ∧ nS sz t.heap + (2 * nX_sheet) ≤ (2 * (u.2.2.1))) (va_A (WX hX aX kX hT hM fX_ready fX_sheet dX_sheet nX_sheet iX_sheetLength xX_reader xX_solver xX_prover xX_values xX_clauses xX_nets) sz)) 1876 180000 (va_A (WX hX aX kX hT hM fX_ready fX_sheet dX_sheet nX_sheet iX_sheetLength xX_reader xX_solver xX_prover xX_values xX_clauses xX_nets) sz) := by
  refine Met.ofW (cc := cX11_put) (maxL := 2) (ret := none) (by decide) rfl ?_
  intro p e s m args below meth c s₁ B hml hv
  obtain ⟨rfl, hsz, hP, hK, hD0⟩ := hv
  have hx := B.exec
  have hb := B.bytes
  have hr := B.returns
  have hts := atoms_spec (ws := wsMX11_put) B.pre
  have hown : s.vm.findClass RX11 = some m.cls := findClass_of_methodNamed B.named
  have hlocks := B.notSynchronized
  subst hsz
  have hD := hD0.self (sz := s.heap.size)
  generalize hAe : va_A (WX hX aX kX hT hM fX_ready fX_sheet dX_sheet nX_sheet iX_sheetLength xX_reader xX_solver xX_prover xX_values xX_clauses xX_nets) s.heap.size = A at hD ⊢
  have hA : ∀ q : Nat, s.heap.size ≤ q → A q := fun q h => by rw [← hAe]; exact Or.inr h
  have hS : va_S A s.heap s.heap [] := va_S.rf
  have hl := lv_entry ([.ref (hX 0), .int p1]) (n := 2) (Nat.le_of_ble_eq_true rfl)
  rw [lg_entry_eq]
  generalize (lg_sl ([.ref (hX 0), .int p1]) ++ List.replicate (2 - (lg_sl ([.ref (hX 0), .int p1])).length) Slot.unset).toArray = ls at hl ⊢
  have hl : lv_has ls 2 [(0, .ref (hX 0)), (1, .int p1)] := hl
  refine W.widen (k := (nX_sheet / 32 - (nX_sheet / 32))) (n := (2 * nX_sheet - (2 * nX_sheet))) (Nat.zero_le _) (Nat.zero_le _) ?_
  refine lv_aload_n hx hb dX11_put_0 rfl (lv_at hl 0 rfl) ?_
  refine va_get (D := (dC, dI)) (ci := 11) (v := .int iX_sheetLength) (C := RX11) (T := TX11) (N := 11) hx hb hts iwsMX11_put_in11 hown hK hP 0 rfl rfl 4 (by decide) (hts _ hm_m_X11_put_0) (fun _ h9 => h9) rfl dX11_put_1 ?_
  refine lv_sipush (v := 30000) hx hb dX11_put_4 (by decide) ?_
  refine lv_icmp_lt (tgt := 11) hx hb dX11_put_7 (by decide) (fun c_7 => ?_) (fun c_7 => ?_)
  · have t_7 : iX_sheetLength.toInt < 30000 := toI_lt c_7 rfl (by decide : (30000 : Int32).toInt = 30000)
    refine lv_aload_n hx hb dX11_put_11 rfl (lv_at hl 0 rfl) ?_
    refine va_get (D := (dC, dI)) (ci := 11) (v := .int iX_sheetLength) (C := RX11) (T := TX11) (N := 11) hx hb hts iwsMX11_put_in11 hown hK hP 0 rfl rfl 4 (by decide) (hts _ hm_m_X11_put_0) (fun _ h9 => h9) rfl dX11_put_12 ?_
    refine lv_aload_n hx hb dX11_put_15 rfl (lv_at hl 0 rfl) ?_
    refine va_get (D := (dC, dI)) (ci := 11) (v := .ref dX_sheet) (C := RX11) (T := TX11) (N := 11) hx hb hts iwsMX11_put_in11 hown hK hP 0 rfl rfl 3 (by decide) (hts _ hm_m_X11_put_1) (fun _ h9 => h9) rfl dX11_put_16 ?_
    refine va_alen hx hb hK hP 2 1 rfl rfl (v := (iI ((nX_sheet : Nat) : Int))) (iI_nat _) dX11_put_19 ?_
    refine W.known (fun hzk hnk => ?_)
    refine W.widen (k := 1875) (n := 120000) (by omega) (by omega) ?_
    refine W.cut (pc := 41) (fun H locs ls stk => ∃ (fX_sheet_j2 : Nat → Int32) (dX_sheet_j2 : Nat) (nX_sheet_j2 : Nat), (∀ q : Nat, (-128) ≤ (fX_sheet_j2 q).toInt ∧ (fX_sheet_j2 q).toInt ≤ 127) ∧ (64 ≤ nX_sheet_j2 ∧ nX_sheet_j2 ≤ 60000) ∧ (iX_sheetLength.toInt ≤ ((nX_sheet_j2 : Nat) : Int)) ∧ (iX_sheetLength.toInt < ((nX_sheet_j2 : Nat) : Int)) ∧ (nX_sheet ≤ nX_sheet_j2) ∧ (H.size + (nX_sheet / 32) ≤ s.heap.size + (nX_sheet_j2 / 32) ∧ nS s.heap.size H + (2 * nX_sheet) ≤ (2 * nX_sheet_j2)) ∧  stk = [] ∧ va_P (dC, dI) vwCl (WX hX aX kX hT hM fX_ready fX_sheet_j2 dX_sheet_j2 nX_sheet_j2 iX_sheetLength xX_reader xX_solver xX_prover xX_values xX_clauses xX_nets) H ∧ va_D A (WX hX aX kX hT hM fX_ready fX_sheet_j2 dX_sheet_j2 nX_sheet_j2 iX_sheetLength xX_reader xX_solver xX_prover xX_values xX_clauses xX_nets) ∧ va_S A s.heap H locs ∧ lv_has ls 2 [(0, .ref (hX 0)), (1, .int p1)]) (fun join2 => ?_) ?_
    · refine W.tight (cells2 := (nX_sheet / 32 - (nX_sheet / 32))) (slots2 := (2 * nX_sheet - (2 * nX_sheet))) hzk hnk ?_
      refine lv_icmp_lt (tgt := 41) hx hb dX11_put_20 (by decide) (fun c_20 => ?_) (fun c_20 => ?_)
      · first | (have t_20 : iX_sheetLength.toInt < ((nX_sheet : Nat) : Int) := toI_lt c_20 rfl (iI_t (by omega) (by omega))) | skip
        have hl : lv_has _ _ ([(0, .ref (hX 0)), (1, .int p1)]) := lv_sub hl [0, 1] rfl
        refine W.known (fun hza hna => ?_)
        refine W.widen (k := 1875) (n := 120000) (by omega) (by omega) ?_
        exact join2 _ _ _ _ ⟨fX_sheet, dX_sheet, nX_sheet, b_fX_sheet, (by first | exact b_nX_sheet | with_reducible assumption | exact ⟨by omega, by omega⟩ | assumption), (by first | with_reducible assumption | omega | (rw [iI_t (by omega) (by omega)]; omega) | (have h7 : (0 : Int32).toInt = 0 := (by decide); omega)), (show iX_sheetLength.toInt < ((nX_sheet : Nat) : Int) from by omega), (show nX_sheet ≤ nX_sheet from by omega), ⟨by omega, by omega⟩, rfl, hP, hD, hS, hl⟩
      · first | (have t_20 : ¬ iX_sheetLength.toInt < ((nX_sheet : Nat) : Int) := toI_nlt c_20 rfl (iI_t (by omega) (by omega))) | skip
        refine lv_aload_n hx hb dX11_put_23 rfl (lv_at hl 0 rfl) ?_
        refine lv_aload_n hx hb dX11_put_24 rfl (lv_at hl 0 rfl) ?_
        refine va_get (D := (dC, dI)) (ci := 11) (v := .ref dX_sheet) (C := RX11) (T := TX11) (N := 11) hx hb hts iwsMX11_put_in11 hown hK hP 0 rfl rfl 3 (by decide) (hts _ hm_m_X11_put_1) (fun _ h9 => h9) rfl dX11_put_25 ?_
        refine lv_aload_n hx hb dX11_put_28 rfl (lv_at hl 0 rfl) ?_
        refine va_get (D := (dC, dI)) (ci := 11) (v := .ref dX_sheet) (C := RX11) (T := TX11) (N := 11) hx hb hts iwsMX11_put_in11 hown hK hP 0 rfl rfl 3 (by decide) (hts _ hm_m_X11_put_1) (fun _ h9 => h9) rfl dX11_put_29 ?_
        refine va_alen hx hb hK hP 2 1 rfl rfl (v := (iI ((nX_sheet : Nat) : Int))) (iI_nat _) dX11_put_32 ?_
        refine lv_iconst (v := 2) hx hb dX11_put_33 (by decide) ?_
        refine lv_imul hx hb dX11_put_34 ?_
        refine lv_topi (fun y3 hy3 => ?_)
        obtain rfl : (iI (((nX_sheet : Nat) : Int) * 2)) = y3 := (hy3.trans (iI_mul2 rfl (by decide : (2 : Int32) = iI 2))).symm
        obtain ⟨nn4, hnn4⟩ : ∃ k9 : Nat, (k9 : Int) = (((nX_sheet : Nat) : Int) * 2) := ⟨((((nX_sheet : Nat) : Int) * 2)).toNat, by omega⟩
        have hPc : va_P (dC, dI) vwCl (WH (fun _ => 0) (fun _ => dX_sheet) (fun _ => kX 1) nX_sheet fX_sheet) _ := hP.sub [2] rfl
        have hDc : va_D _ (WH (fun _ => 0) (fun _ => dX_sheet) (fun _ => kX 1) nX_sheet fX_sheet) := hD.sub [2] (by decide) rfl
        have hKc : va_K (dC, dI) vwCl (tH (fun _ => kX 1)) _ := hK.sub [1] rfl
        have hFc := va_free (wc := WH (fun _ => 0) (fun _ => dX_sheet) (fun _ => kX 1) nX_sheet fX_sheet) hD hS hA [2] rfl
        refine va_callr (va_runS (As := [.ref dX_sheet, .int (iI (((nX_sheet : Nat) : Int) * 2))]) (rest := [.ref (hX 0)]) ⟨hx, hb, hml, hown, hts⟩ (m_J7_copyOf_9075b l dC dI (fun _ => 0) (fun _ => dX_sheet) (fun _ => kX 1) nX_sheet fX_sheet (iI (((nX_sheet : Nat) : Int) * 2)) nn4 ⟨by omega, by omega⟩ b_fX_sheet ((iI_t (by omega) (by omega)).trans hnn4.symm) (by omega) (by omega) s.heap.size) (va_cwS 2 hts gwsMX11_put_0 rfl rfl rfl (by decide +kernel) ⟨(by first | decide +kernel | (dsimp only [headSpec] <;> omega)), (by first | decide +kernel | (dsimp only [headSpec] <;> omega))⟩) ⟨fun a U g mk q => by obtain ⟨q0, q1, qP, qK, qD⟩ := q; exact ⟨q0, q1, qP, va_K.moved (u := U) (U := U.calling g mk a) (Vm.Alike.refl U.vm) qK, qD⟩, fun U hU9 hW => ⟨rfl, by rw [hU9], by rw [hU9]; exact hPc, va_K.moved hW.alike hKc, hDc.weaken (fun _ _ _ _ => trivial)⟩⟩ rfl rfl hl.1 rfl (lv_room (Nat.le_of_ble_eq_true rfl)) dX11_put_35 ⟨(by first | decide +kernel | (dsimp only [headSpec] <;> omega)), (by first | decide +kernel | (dsimp only [headSpec] <;> omega))⟩) hS (fun q _ h => hFc q h) hFc (fun uC4 ra4 t9_ H locs ht hvm hw9 hB9 hz1 hk1 hS => ?_)
        obtain ⟨hP, hD⟩ := va_join (wr := [(hX 0, .inr (11, [.ref (aX 0), .ref (hT 0), .ref (hM 0), .ref dX_sheet, .int iX_sheetLength, xX_reader, xX_solver, xX_prover, xX_values, xX_clauses, xX_nets])), (aX 0, .inl (kX 0, 5, .inl fX_ready))]) (w1 := [(dX_sheet, .inl (kX 1, nX_sheet, .inl fX_sheet)), (ra4, .inl (kX 1, nn4, .inl uC4))]) hP hD [2] [0, 1] rfl rfl (by decide) (by decide) hk1 hFc (fz_P ht hB9.1) hB9.2
        have hP : va_P (dC, dI) vwCl ((WX hX aX kX hT hM fX_ready fX_sheet dX_sheet nX_sheet iX_sheetLength xX_reader xX_solver xX_prover xX_values xX_clauses xX_nets) ++ [(ra4, .inl (kX 1, nn4, .inl uC4))]) H := hP.sub [0, 1, 2, 3] rfl
        have hD : va_D A ((WX hX aX kX hT hM fX_ready fX_sheet dX_sheet nX_sheet iX_sheetLength xX_reader xX_solver xX_prover xX_values xX_clauses xX_nets) ++ [(ra4, .inl (kX 1, nn4, .inl uC4))]) := hD.sub [0, 1, 2, 3] (by decide) rfl
        have b_uC4 := hw9
        refine va_put (D := (dC, dI)) (ci := 11) (v := .ref ra4) (ty := .array .byte) (C := RX11) (T := TX11) (N := 11) hx hb hts iwsMX11_put_in11 tyX11 tyX11_ok nmX11 hown hK hP hD hS 0 rfl rfl 3 (by decide) (hts _ hm_m_X11_put_1) (fun _ h9 => h9) rfl (by decide +kernel) rfl rfl (Nat.le_of_ble_eq_true rfl) dX11_put_38 (fun H locs hP hD hS => ?_)
        have hP : va_P (dC, dI) vwCl (WX hX aX kX hT hM fX_ready uC4 ra4 nn4 iX_sheetLength xX_reader xX_solver xX_prover xX_values xX_clauses xX_nets) _ := hP.sub [0, 1, 3] rfl
        have hD : va_D _ (WX hX aX kX hT hM fX_ready uC4 ra4 nn4 iX_sheetLength xX_reader xX_solver xX_prover xX_values xX_clauses xX_nets) := hD.sub [0, 1, 3] (by decide) rfl
        have hP : va_P (dC, dI) vwCl (WX hX aX kX hT hM fX_ready uC4 ra4 nn4 iX_sheetLength xX_reader xX_solver xX_prover xX_values xX_clauses xX_nets) H := hP
        have hD := fz_sd hP (hD) rfl
        refine W.widen (k := (nn4 / 32 - (nX_sheet / 32))) (n := (2 * nn4 - (2 * nX_sheet))) (by omega) (by omega) ?_
        have hl : lv_has _ _ ([(0, .ref (hX 0)), (1, .int p1)]) := lv_sub hl [0, 1] rfl
        refine W.known (fun hza hna => ?_)
        refine W.widen (k := 1875) (n := 120000) (by omega) (by omega) ?_
        exact join2 _ _ _ _ ⟨uC4, ra4, nn4, b_uC4, (by first | exact b_nn4 | with_reducible assumption | exact ⟨by omega, by omega⟩ | assumption), (by first | with_reducible assumption | omega | (rw [iI_t (by omega) (by omega)]; omega) | (have h7 : (0 : Int32).toInt = 0 := (by decide); omega)), (show iX_sheetLength.toInt < ((nn4 : Nat) : Int) from by omega), (show nX_sheet ≤ nn4 from by omega), ⟨by omega, by omega⟩, rfl, hP, hD, hS, hl⟩
    · intro H locs ls stk
      refine fz_e3 ?_
      intro fX_sheet_j2 dX_sheet_j2 nX_sheet_j2
      refine fz_a11 ?_
      intro b_fX_sheet_j2 b_nX_sheet_j2 b_shl_j2 hjn hgm0_j2 hzn9_5 hst9_6 hP hD hS hl
      have hzj := hzn9_5.1
      have hnj := hzn9_5.2
      clear hzn9_5
      subst hst9_6
      refine W.tight (cells2 := (nX_sheet_j2 / 32 - (nX_sheet / 32))) (slots2 := (2 * nX_sheet_j2 - (2 * nX_sheet))) (tg1 hzj hS.1) (tg2 hnj) ?_
      refine lv_aload_n hx hb dX11_put_41 rfl (lv_at hl 0 rfl) ?_
      refine va_get (D := (dC, dI)) (ci := 11) (v := .ref dX_sheet_j2) (C := RX11) (T := TX11) (N := 11) hx hb hts iwsMX11_put_in11 hown hK hP 0 rfl rfl 3 (by decide) (hts _ hm_m_X11_put_1) (fun _ h9 => h9) rfl dX11_put_42 ?_
      refine lv_aload_n hx hb dX11_put_45 rfl (lv_at hl 0 rfl) ?_
      refine va_get (D := (dC, dI)) (ci := 11) (v := .int iX_sheetLength) (C := RX11) (T := TX11) (N := 11) hx hb hts iwsMX11_put_in11 hown hK hP 0 rfl rfl 4 (by decide) (hts _ hm_m_X11_put_0) (fun _ h9 => h9) rfl dX11_put_46 ?_
      refine lv_iload_n hx hb dX11_put_49 rfl (lv_at hl 1 rfl) ?_
      refine lv_i2b hx hb dX11_put_50 rfl ?_
      refine lv_topi (fun v5 hv5 => ?_)
      clear hv5
      refine va_bast (cA := kX 1) (n := nX_sheet_j2) (f := fX_sheet_j2) hx hb hK hP hD hS 2 1 rfl rfl (vp_in_iff.mpr ⟨b_iX_sheetLength.1, (by omega)⟩) dX11_put_51 (fun H locs hP hD hS => ?_)
      obtain ⟨u6, hu6⟩ : ∃ f9, f9 = upd fX_sheet_j2 (iX_sheetLength).toNatClampNeg (vp_nar FieldType.byte v5) := ⟨_, rfl⟩
      have hP : va_P (dC, dI) vwCl (WX hX aX kX hT hM fX_ready u6 dX_sheet_j2 nX_sheet_j2 iX_sheetLength xX_reader xX_solver xX_prover xX_values xX_clauses xX_nets) H := by rw [hu6]; exact hP
      have hD : va_D A (WX hX aX kX hT hM fX_ready u6 dX_sheet_j2 nX_sheet_j2 iX_sheetLength xX_reader xX_solver xX_prover xX_values xX_clauses xX_nets) := by rw [hu6]; exact hD
      have b_u6 : ∀ q : Nat, (-128) ≤ (u6 q).toInt ∧ (u6 q).toInt ≤ 127 := by rw [hu6]; exact updb_r b_fX_sheet_j2
      clear hu6
      refine lv_aload_n hx hb dX11_put_52 rfl (lv_at hl 0 rfl) ?_
      refine lv_dup hx hb dX11_put_53 rfl ?_
      refine va_get (D := (dC, dI)) (ci := 11) (v := .int iX_sheetLength) (C := RX11) (T := TX11) (N := 11) hx hb hts iwsMX11_put_in11 hown hK hP 0 rfl rfl 4 (by decide) (hts _ hm_m_X11_put_0) (fun _ h9 => h9) rfl dX11_put_54 ?_
      refine lv_iconst (v := 1) hx hb dX11_put_57 (by decide) ?_
      refine lv_iadd hx hb dX11_put_58 ?_
      refine lv_topi (fun y7 hy7 => ?_)
      obtain rfl : (iI (iX_sheetLength.toInt + 1)) = y7 := (hy7.trans (iI_add2 (iI_of _) (by decide : (1 : Int32) = iI 1))).symm
      refine va_put (D := (dC, dI)) (ci := 11) (v := .int (iI (iX_sheetLength.toInt + 1))) (ty := .int) (C := RX11) (T := TX11) (N := 11) hx hb hts iwsMX11_put_in11 tyX11 tyX11_ok nmX11 hown hK hP hD hS 0 rfl rfl 4 (by decide) (hts _ hm_m_X11_put_0) (fun _ h9 => h9) rfl (by decide +kernel) rfl rfl (Nat.le_of_ble_eq_true rfl) dX11_put_59 (fun H locs hP hD hS => ?_)
      have hP : va_P (dC, dI) vwCl (WX hX aX kX hT hM fX_ready u6 dX_sheet_j2 nX_sheet_j2 (iI (iX_sheetLength.toInt + 1)) xX_reader xX_solver xX_prover xX_values xX_clauses xX_nets) H := hP
      have hD := fz_sd hP (hD) rfl
      refine W.known (fun hz9 hn9 => ?_)
      refine W.widen (k := 1876) (n := 180000) (by omega) (by omega) ?_
      exact W.vret hx hb hr (fun t9_ ht hW => ⟨⟨(u6, dX_sheet_j2, nX_sheet_j2, (iI (iX_sheetLength.toInt + 1))), rfl, ⟨b_u6, (by (try dsimp only); exact (by first | exact b_nX_sheet_j2 | with_reducible assumption | exact ⟨by omega, by omega⟩ | assumption)), (by (try dsimp only); exact (iI_rng (Int.le_trans (by decide) (Int.add_le_add (b_iX_sheetLength.1) (Int.le_refl _))) (by omega) (by decide) (by decide))), (by (try dsimp only); exact (by first | with_reducible assumption | omega | (rw [iI_t (by omega) (by omega)]; omega) | (have h7 : (0 : Int32).toInt = 0 := (by decide); omega))), (by (try dsimp only); omega), (by (try dsimp only); first | omega | (rw [iI_t (by omega) (by omega)]; omega))⟩, by rw [ht]; exact hP, hD, by rw [ht]; (try dsimp only); omega, by rw [ht]; (try dsimp only); omega⟩, hS.F ht⟩) hS.2.2 dX11_put_62
  · have t_7 : ¬ iX_sheetLength.toInt < 30000 := toI_nlt c_7 rfl (by decide : (30000 : Int32).toInt = 30000)
    refine W.known (fun hz9 hn9 => ?_)
    refine W.widen (k := 1876) (n := 180000) (by omega) (by omega) ?_
    exact W.vret hx hb hr (fun t9_ ht hW => ⟨⟨(fX_sheet, dX_sheet, nX_sheet, iX_sheetLength), rfl, ⟨b_fX_sheet, (by (try dsimp only); exact (by first | exact b_nX_sheet | with_reducible assumption | exact ⟨by omega, by omega⟩ | assumption)), b_iX_sheetLength, (by (try dsimp only); exact (by first | with_reducible assumption | omega | (rw [iI_t (by omega) (by omega)]; omega) | (have h7 : (0 : Int32).toInt = 0 := (by decide); omega))), (by (try dsimp only); omega), (by (try dsimp only); first | omega | (rw [iI_t (by omega) (by omega)]; omega))⟩, by rw [ht]; exact hP, hD, by rw [ht]; (try dsimp only); omega, by rw [ht]; (try dsimp only); omega⟩, hS.F ht⟩) hS.2.2 dX11_put_10
theorem dX11_turnRound_0 : decode cX11_turnRound 0 = .ok (.iload_n 1, 1) := dk_27 (by decide +kernel)
theorem dX11_turnRound_1 : decode cX11_turnRound 1 = .ok (.istore_n 2, 1) := dk_61 (by decide +kernel)
theorem dX11_turnRound_2 : decode cX11_turnRound 2 = .ok (.aload_n 0, 1) := dk_42 (by decide +kernel)
theorem dX11_turnRound_3 : decode cX11_turnRound 3 = .ok (.getfield 138, 3) := dk_180 (by decide +kernel)
theorem dX11_turnRound_6 : decode cX11_turnRound 6 = .ok (.iconst 1, 1) := dk_4 (by decide +kernel)
theorem dX11_turnRound_7 : decode cX11_turnRound 7 = .ok (.isub, 1) := dk_100 (by decide +kernel)
theorem dX11_turnRound_8 : decode cX11_turnRound 8 = .ok (.istore_n 3, 1) := dk_62 (by decide +kernel)
theorem dX11_turnRound_9 : decode cX11_turnRound 9 = .ok (.iload_n 2, 1) := dk_28 (by decide +kernel)
theorem dX11_turnRound_10 : decode cX11_turnRound 10 = .ok (.iload_n 3, 1) := dk_29 (by decide +kernel)
theorem dX11_turnRound_11 : decode cX11_turnRound 11 = .ok (.if_icmp .ge 40, 3) := dk_162 (by decide +kernel)
theorem dX11_turnRound_14 : decode cX11_turnRound 14 = .ok (.aload_n 0, 1) := dk_42 (by decide +kernel)
theorem dX11_turnRound_15 : decode cX11_turnRound 15 = .ok (.getfield 27, 3) := dk_180 (by decide +kernel)
theorem dX11_turnRound_18 : decode cX11_turnRound 18 = .ok (.iload_n 2, 1) := dk_28 (by decide +kernel)
theorem dX11_turnRound_19 : decode cX11_turnRound 19 = .ok (.baload, 1) := dk_51 (by decide +kernel)
theorem dX11_turnRound_20 : decode cX11_turnRound 20 = .ok (.istore 4, 2) := dk_54 (by decide +kernel)
theorem dX11_turnRound_22 : decode cX11_turnRound 22 = .ok (.aload_n 0, 1) := dk_42 (by decide +kernel)
theorem dX11_turnRound_23 : decode cX11_turnRound 23 = .ok (.getfield 27, 3) := dk_180 (by decide +kernel)
theorem dX11_turnRound_26 : decode cX11_turnRound 26 = .ok (.iload_n 2, 1) := dk_28 (by decide +kernel)
theorem dX11_turnRound_27 : decode cX11_turnRound 27 = .ok (.aload_n 0, 1) := dk_42 (by decide +kernel)
theorem dX11_turnRound_28 : decode cX11_turnRound 28 = .ok (.getfield 27, 3) := dk_180 (by decide +kernel)
theorem dX11_turnRound_31 : decode cX11_turnRound 31 = .ok (.iload_n 3, 1) := dk_29 (by decide +kernel)
theorem dX11_turnRound_32 : decode cX11_turnRound 32 = .ok (.baload, 1) := dk_51 (by decide +kernel)
theorem dX11_turnRound_33 : decode cX11_turnRound 33 = .ok (.bastore, 1) := dk_84 (by decide +kernel)
theorem dX11_turnRound_34 : decode cX11_turnRound 34 = .ok (.aload_n 0, 1) := dk_42 (by decide +kernel)
theorem dX11_turnRound_35 : decode cX11_turnRound 35 = .ok (.getfield 27, 3) := dk_180 (by decide +kernel)
theorem dX11_turnRound_38 : decode cX11_turnRound 38 = .ok (.iload_n 3, 1) := dk_29 (by decide +kernel)
theorem dX11_turnRound_39 : decode cX11_turnRound 39 = .ok (.iload 4, 2) := dk_21 (by decide +kernel)
theorem dX11_turnRound_41 : decode cX11_turnRound 41 = .ok (.bastore, 1) := dk_84 (by decide +kernel)
theorem dX11_turnRound_42 : decode cX11_turnRound 42 = .ok (.iinc 2 1, 3) := dk_132 (by decide +kernel)
theorem dX11_turnRound_45 : decode cX11_turnRound 45 = .ok (.iinc 3 (-1), 3) := dk_132 (by decide +kernel)
theorem dX11_turnRound_48 : decode cX11_turnRound 48 = .ok (.goto (-39), 3) := dk_167 (by decide +kernel)
theorem dX11_turnRound_51 : decode cX11_turnRound 51 = .ok (.return_, 1) := dk_177 (by decide +kernel)
def wsMX11_turnRound : List Cond := .code yX11_turnRound cX11_turnRound 5 none :: ([.fieldLink RX11 138 "OptimaWorks" "sheetLength" "I", .fieldLink RX11 27 "OptimaWorks" "sheet" "[B"] ++ wsX110)
theorem iwsMX11_turnRound_in11 : ∀ w ∈ wsX110, w ∈ wsMX11_turnRound := fun _ h => List.mem_cons_of_mem _ (List.mem_append_right _ h)
theorem gdwsMX11_turnRound : wsMX11_turnRound.all goodWord = true := gdC rfl (gdA (by decide +kernel : ([.fieldLink RX11 138 "OptimaWorks" "sheetLength" "I", .fieldLink RX11 27 "OptimaWorks" "sheet" "[B"] : List Cond).all goodWord = true) gdwsX110)
theorem hm_m_X11_turnRound_0 : (.fieldLink RX11 27 "OptimaWorks" "sheet" "[B" : Cond) ∈ wsMX11_turnRound := by decide +kernel
set_option maxHeartbeats 4000000 in
set_option maxRecDepth 100000 in
/-- digits turned round -/
theorem m_X11_turnRound (l : Launch) (dC : Nat → ClassId) (dI : Nat → Nat → Nat) (hX : Nat → Nat) (aX : Nat → Nat) (kX : Nat → ClassId) (hT : Nat → Nat) (hM : Nat → Nat) (fX_ready : Nat → Int32) (fX_sheet : Nat → Int32) (dX_sheet : Nat) (nX_sheet : Nat) (iX_sheetLength : Int32) (xX_reader : Value) (xX_solver : Value) (xX_prover : Value) (xX_values : Value) (xX_clauses : Value) (xX_nets : Value) (p1 : Int32) (b_fX_sheet : ∀ q : Nat, (-128) ≤ (fX_sheet q).toInt ∧ (fX_sheet q).toInt ≤ 127) (b_nX_sheet : 64 ≤ nX_sheet ∧ nX_sheet ≤ 60000) (b_iX_sheetLength : 0 ≤ iX_sheetLength.toInt ∧ iX_sheetLength.toInt ≤ 30000) (b_shl : iX_sheetLength.toInt ≤ ((nX_sheet : Nat) : Int)) (b_p1 : 0 ≤ p1.toInt ∧ p1.toInt ≤ 30000) (sz : Nat) : Met l yX11_turnRound wsMX11_turnRound ({ frames := 0, cells := 0, slots := 0, locals := 0 }) (va_Pc [.ref (hX 0), .int p1] (fun U => U.heap.size = sz ∧ va_P (dC, dI) vwCl (WX hX aX kX hT hM fX_ready fX_sheet dX_sheet nX_sheet iX_sheetLength xX_reader xX_solver xX_prover xX_values xX_clauses xX_nets) U.heap ∧ va_K (dC, dI) vwCl (tX kX) U ∧ va_D (fun _ => True) (WX hX aX kX hT hM fX_ready fX_sheet dX_sheet nX_sheet iX_sheetLength xX_reader xX_solver xX_prover xX_values xX_clauses xX_nets))) (va_Qv (fun (u : Nat → Int32) => (∀ q : Nat, (-128) ≤ (u q).toInt ∧ (u q).toInt ≤ 127)) (fun (u : Nat → Int32) t => va_P (dC, dI) vwCl (WX hX aX kX hT hM fX_ready u dX_sheet nX_sheet iX_sheetLength xX_reader xX_solver xX_prover xX_values xX_clauses xX_nets) t.heap ∧ va_D (va_A (WX hX aX kX hT hM fX_ready fX_sheet dX_sheet nX_sheet iX_sheetLength xX_reader xX_solver xX_prover xX_values xX_clauses xX_nets) sz) (WX hX aX kX hT hM fX_ready u dX_sheet nX_sheet iX_sheetLength xX_reader xX_solver xX_prover xX_values xX_clauses xX_nets)) (va_A (WX hX aX kX hT hM fX_ready fX_sheet dX_sheet nX_sheet iX_sheetLength xX_reader xX_solver xX_prover xX_values xX_clauses xX_nets) sz)) 0 0 (va_A (WX hX aX kX hT hM fX_ready fX_sheet dX_sheet nX_sheet iX_sheetLength xX_reader xX_solver xX_prover xX_values xX_clauses xX_nets) sz) := by
  refine Met.ofW (cc := cX11_turnRound) (maxL := 5) (ret := none) (by decide) rfl ?_
  intro p e s m args below meth c s₁ B hml hv
  obtain ⟨rfl, hsz, hP, hK, hD0⟩ := hv
  have hx := B.exec
  have hb := B.bytes
  have hr := B.returns
  have hts := atoms_spec (ws := wsMX11_turnRound) B.pre
  have hown : s.vm.findClass RX11 = some m.cls := findClass_of_methodNamed B.named
  have hlocks := B.notSynchronized
  subst hsz
  have hD := hD0.self (sz := s.heap.size)
  generalize hAe : va_A (WX hX aX kX hT hM fX_ready fX_sheet dX_sheet nX_sheet iX_sheetLength xX_reader xX_solver xX_prover xX_values xX_clauses xX_nets) s.heap.size = A at hD ⊢
  have hA : ∀ q : Nat, s.heap.size ≤ q → A q := fun q h => by rw [← hAe]; exact Or.inr h
  have hS : va_S A s.heap s.heap [] := va_S.rf
  have hl := lv_entry ([.ref (hX 0), .int p1]) (n := 5) (Nat.le_of_ble_eq_true rfl)
  rw [lg_entry_eq]
  generalize (lg_sl ([.ref (hX 0), .int p1]) ++ List.replicate (5 - (lg_sl ([.ref (hX 0), .int p1])).length) Slot.unset).toArray = ls at hl ⊢
  have hl : lv_has ls 5 [(0, .ref (hX 0)), (1, .int p1)] := hl
  refine lv_iload_n hx hb dX11_turnRound_0 rfl (lv_at hl 1 rfl) ?_
  refine lv_istore_n hx hb dX11_turnRound_1 rfl hl (by decide) rfl (fun ls (hl : lv_has ls _ ([(2, .int p1), (0, .ref (hX 0)), (1, .int p1)])) => ?_)
  refine lv_aload_n hx hb dX11_turnRound_2 rfl (lv_at hl 1 rfl) ?_
  refine va_get (D := (dC, dI)) (ci := 11) (v := .int iX_sheetLength) (C := RX11) (T := TX11) (N := 11) hx hb hts iwsMX11_turnRound_in11 hown hK hP 0 rfl rfl 4 (by decide) (hts (.fieldLink RX11 138 "OptimaWorks" "sheetLength" "I") (by decide +kernel)) (fun _ h9 => h9) rfl dX11_turnRound_3 ?_
  refine lv_iconst (v := 1) hx hb dX11_turnRound_6 (by decide) ?_
  refine lv_isub hx hb dX11_turnRound_7 ?_
  refine lv_topi (fun y1 hy1 => ?_)
  obtain rfl : (iI (iX_sheetLength.toInt - 1)) = y1 := (hy1.trans (iI_sub2 (iI_of _) (by decide : (1 : Int32) = iI 1))).symm
  refine lv_istore_n hx hb dX11_turnRound_8 rfl hl (by decide) rfl (fun ls (hl : lv_has ls _ ([(3, .int (iI (iX_sheetLength.toInt - 1))), (2, .int p1), (0, .ref (hX 0)), (1, .int p1)])) => ?_)
  have hl : lv_has _ _ ([(3, .int (iI (iX_sheetLength.toInt - 1))), (2, .int p1), (0, .ref (hX 0)), (1, .int p1)]) := lv_sub hl [0, 1, 2, 3] rfl
  refine (fun (loop : ∀ (n9 : Nat) (fX_sheet_x9 : Nat → Int32) (l3_x9 : Int32) (l2_x9 : Int32) (H : Heap) (locs : List Loc) (ls : Array Slot), (∀ q : Nat, (-128) ≤ (fX_sheet_x9 q).toInt ∧ (fX_sheet_x9 q).toInt ≤ 127) → ((-1) ≤ l3_x9.toInt ∧ l3_x9.toInt ≤ 29999) → (0 ≤ l2_x9.toInt ∧ l2_x9.toInt ≤ 30001) → (l3_x9.toInt < iX_sheetLength.toInt) → (30001 - l2_x9.toInt < ((n9 : Nat) : Int)) → va_P (dC, dI) vwCl (WX hX aX kX hT hM fX_ready fX_sheet_x9 dX_sheet nX_sheet iX_sheetLength xX_reader xX_solver xX_prover xX_values xX_clauses xX_nets) H → va_D A (WX hX aX kX hT hM fX_ready fX_sheet_x9 dX_sheet nX_sheet iX_sheetLength xX_reader xX_solver xX_prover xX_values xX_clauses xX_nets) → va_S A s.heap H locs → lv_has ls 5 [(3, .int l3_x9), (2, .int l2_x9), (0, .ref (hX 0)), (1, .int p1)] → W p l e _ s m _ below meth c H locs 0 0 _ (F0 m 9 ls [])) => loop (30002) fX_sheet (iI (iX_sheetLength.toInt - 1)) p1 _ _ _ b_fX_sheet (iI_rng (Int.le_trans (by decide) (Int.sub_le_sub (b_iX_sheetLength.1) (Int.le_refl _))) (Int.le_trans (Int.sub_le_sub (b_iX_sheetLength.2) (Int.le_refl _)) (by decide)) (by decide) (by decide)) (⟨b_p1.1, Int.le_trans b_p1.2 (by decide)⟩) (show (iI (iX_sheetLength.toInt - 1)).toInt < iX_sheetLength.toInt from by rw [iI_t (by omega) (by omega)]; omega) ((by have e9 : (p1).toInt = p1.toInt := rfl; omega)) hP hD hS hl) ?_
  intro n9
  induction n9 with
  | zero => intro fX_sheet_x9 l3_x9 l2_x9 H locs ls b_fX_sheet_x9 b_l3_x9 b_l2_x9 hjl hf9; exact False.elim (by omega)
  | succ n9 ihx9 =>
    intro fX_sheet_x9 l3_x9 l2_x9 H locs ls b_fX_sheet_x9 b_l3_x9 b_l2_x9 hjl hfx9 hP hD hS hl
    refine lv_iload_n hx hb dX11_turnRound_9 rfl (lv_at hl 1 rfl) ?_
    refine lv_iload_n hx hb dX11_turnRound_10 rfl (lv_at hl 0 rfl) ?_
    refine lv_icmp_ge (tgt := 51) hx hb dX11_turnRound_11 (by decide) (fun c_11 => ?_) (fun c_11 => ?_)
    · have t_11 : l2_x9.toInt ≥ l3_x9.toInt := toI_ge c_11 rfl rfl
      refine W.widen (k := 0) (n := 0) (by decide +kernel) (by decide +kernel) ?_
      exact W.vret hx hb hr (fun t9_ ht hW => ⟨⟨fX_sheet_x9, rfl, b_fX_sheet_x9, by rw [ht]; exact hP, hD⟩, hS.F ht⟩) hS.2.2 dX11_turnRound_51
    · have t_11 : ¬ l2_x9.toInt ≥ l3_x9.toInt := toI_nge c_11 rfl rfl
      refine lv_aload_n hx hb dX11_turnRound_14 rfl (lv_at hl 2 rfl) ?_
      refine va_get (D := (dC, dI)) (ci := 11) (v := .ref dX_sheet) (C := RX11) (T := TX11) (N := 11) hx hb hts iwsMX11_turnRound_in11 hown hK hP 0 rfl rfl 3 (by decide) (hts _ hm_m_X11_turnRound_0) (fun _ h9 => h9) rfl dX11_turnRound_15 ?_
      refine lv_iload_n hx hb dX11_turnRound_18 rfl (lv_at hl 1 rfl) ?_
      refine va_bald (cA := kX 1) (n := nX_sheet) (f := fX_sheet_x9) hx hb hK hP 2 1 rfl rfl (vp_in_iff.mpr ⟨b_l2_x9.1, (by omega)⟩) dX11_turnRound_19 ?_
      refine lv_topi (fun v22 hv22 => ?_)
      have b_v22 : (-128) ≤ v22.toInt ∧ v22.toInt ≤ 127 := by rw [hv22]; exact b_fX_sheet_x9 _
      clear hv22
      refine lv_istore hx hb dX11_turnRound_20 hl (by decide) rfl (fun ls (hl : lv_has ls _ ([(4, .int v22), (3, .int l3_x9), (2, .int l2_x9), (0, .ref (hX 0)), (1, .int p1)])) => ?_)
      refine lv_aload_n hx hb dX11_turnRound_22 rfl (lv_at hl 3 rfl) ?_
      refine va_get (D := (dC, dI)) (ci := 11) (v := .ref dX_sheet) (C := RX11) (T := TX11) (N := 11) hx hb hts iwsMX11_turnRound_in11 hown hK hP 0 rfl rfl 3 (by decide) (hts _ hm_m_X11_turnRound_0) (fun _ h9 => h9) rfl dX11_turnRound_23 ?_
      refine lv_iload_n hx hb dX11_turnRound_26 rfl (lv_at hl 2 rfl) ?_
      refine lv_aload_n hx hb dX11_turnRound_27 rfl (lv_at hl 3 rfl) ?_
      refine va_get (D := (dC, dI)) (ci := 11) (v := .ref dX_sheet) (C := RX11) (T := TX11) (N := 11) hx hb hts iwsMX11_turnRound_in11 hown hK hP 0 rfl rfl 3 (by decide) (hts _ hm_m_X11_turnRound_0) (fun _ h9 => h9) rfl dX11_turnRound_28 ?_
      refine lv_iload_n hx hb dX11_turnRound_31 rfl (lv_at hl 1 rfl) ?_
      refine va_bald (cA := kX 1) (n := nX_sheet) (f := fX_sheet_x9) hx hb hK hP 2 1 rfl rfl (vp_in_iff.mpr ⟨(by omega), (by omega)⟩) dX11_turnRound_32 ?_
      refine lv_topi (fun v23 hv23 => ?_)
      have b_v23 : (-128) ≤ v23.toInt ∧ v23.toInt ≤ 127 := by rw [hv23]; exact b_fX_sheet_x9 _
      clear hv23
      refine va_bast (cA := kX 1) (n := nX_sheet) (f := fX_sheet_x9) hx hb hK hP hD hS 2 1 rfl rfl (vp_in_iff.mpr ⟨b_l2_x9.1, (by omega)⟩) dX11_turnRound_33 (fun H locs hP hD hS => ?_)
      obtain ⟨u24, hu24⟩ : ∃ f9, f9 = upd fX_sheet_x9 (l2_x9).toNatClampNeg (vp_nar FieldType.byte v23) := ⟨_, rfl⟩
      have hP : va_P (dC, dI) vwCl (WX hX aX kX hT hM fX_ready u24 dX_sheet nX_sheet iX_sheetLength xX_reader xX_solver xX_prover xX_values xX_clauses xX_nets) H := by rw [hu24]; exact hP
      have hD : va_D A (WX hX aX kX hT hM fX_ready u24 dX_sheet nX_sheet iX_sheetLength xX_reader xX_solver xX_prover xX_values xX_clauses xX_nets) := by rw [hu24]; exact hD
      have b_u24 : ∀ q : Nat, (-128) ≤ (u24 q).toInt ∧ (u24 q).toInt ≤ 127 := by rw [hu24]; exact updb_r b_fX_sheet_x9
      clear hu24
      refine lv_aload_n hx hb dX11_turnRound_34 rfl (lv_at hl 3 rfl) ?_
      refine va_get (D := (dC, dI)) (ci := 11) (v := .ref dX_sheet) (C := RX11) (T := TX11) (N := 11) hx hb hts iwsMX11_turnRound_in11 hown hK hP 0 rfl rfl 3 (by decide) (hts _ hm_m_X11_turnRound_0) (fun _ h9 => h9) rfl dX11_turnRound_35 ?_
      refine lv_iload_n hx hb dX11_turnRound_38 rfl (lv_at hl 1 rfl) ?_
      refine lv_iload hx hb dX11_turnRound_39 (lv_at hl 0 rfl) ?_
      refine va_bast (cA := kX 1) (n := nX_sheet) (f := u24) hx hb hK hP hD hS 2 1 rfl rfl (vp_in_iff.mpr ⟨(by omega), (by omega)⟩) dX11_turnRound_41 (fun H locs hP hD hS => ?_)
      obtain ⟨u25, hu25⟩ : ∃ f9, f9 = upd u24 (l3_x9).toNatClampNeg (vp_nar FieldType.byte v22) := ⟨_, rfl⟩
      have hP : va_P (dC, dI) vwCl (WX hX aX kX hT hM fX_ready u25 dX_sheet nX_sheet iX_sheetLength xX_reader xX_solver xX_prover xX_values xX_clauses xX_nets) H := by rw [hu25]; exact hP
      have hD : va_D A (WX hX aX kX hT hM fX_ready u25 dX_sheet nX_sheet iX_sheetLength xX_reader xX_solver xX_prover xX_values xX_clauses xX_nets) := by rw [hu25]; exact hD
      have b_u25 : ∀ q : Nat, (-128) ≤ (u25 q).toInt ∧ (u25 q).toInt ≤ 127 := by rw [hu25]; exact updb_r b_u24
      clear hu25
      refine lv_iinc (v := (iI (l2_x9.toInt + 1))) hx hb dX11_turnRound_42 hl (k := 2) rfl (iI_add2 (iI_of _) (by decide : (1 : Int32) = iI 1)) (by decide) rfl (fun ls (hl : lv_has ls _ ([(2, .int (iI (l2_x9.toInt + 1))), (4, .int v22), (3, .int l3_x9), (0, .ref (hX 0)), (1, .int p1)])) => ?_)
      refine lv_iinc (v := (iI (l3_x9.toInt + (-1)))) hx hb dX11_turnRound_45 hl (k := 2) rfl (iI_add2 (iI_of _) (by decide : ((-1) : Int32) = iI (-1))) (by decide) rfl (fun ls (hl : lv_has ls _ ([(3, .int (iI (l3_x9.toInt + (-1)))), (2, .int (iI (l2_x9.toInt + 1))), (4, .int v22), (0, .ref (hX 0)), (1, .int p1)])) => ?_)
      refine lv_goto (tgt := 9) hx hb dX11_turnRound_48 (by decide) ?_
      have hl : lv_has _ _ ([(3, .int (iI (l3_x9.toInt + (-1)))), (2, .int (iI (l2_x9.toInt + 1))), (0, .ref (hX 0)), (1, .int p1)]) := lv_sub hl [0, 1, 3, 4] rfl
      exact ihx9 u25 (iI (l3_x9.toInt + (-1))) (iI (l2_x9.toInt + 1)) _ _ _ b_u25 (iI_rng (by omega) (Int.le_trans (Int.add_le_add (b_l3_x9.2) (Int.le_refl _)) (by decide)) (by decide) (by decide)) (iI_rng (Int.le_trans (by decide) (Int.add_le_add (b_l2_x9.1) (Int.le_refl _))) (by omega) (by decide) (by decide)) (show (iI (l3_x9.toInt + (-1))).toInt < iX_sheetLength.toInt from by rw [iI_t (by omega) (by omega)]; omega) (by have e9 : ((iI (l2_x9.toInt + 1))).toInt = (l2_x9.toInt + 1) := (iI_t (Int.le_trans (by decide) (Int.add_le_add (b_l2_x9.1) (Int.le_refl _))) (Int.le_trans (Int.add_le_add (b_l2_x9.2) (Int.le_refl _)) (by decide))); omega) hP hD hS hl
theorem dX11_putText_0 : decode cX11_putText 0 = .ok (.iconst 0, 1) := dk_3 (by decide +kernel)
theorem dX11_putText_1 : decode cX11_putText 1 = .ok (.istore_n 2, 1) := dk_61 (by decide +kernel)
theorem dX11_putText_2 : decode cX11_putText 2 = .ok (.iload_n 2, 1) := dk_28 (by decide +kernel)
theorem dX11_putText_3 : decode cX11_putText 3 = .ok (.aload_n 1, 1) := dk_43 (by decide +kernel)
theorem dX11_putText_4 : decode cX11_putText 4 = .ok (.invokevirtual 234, 3) := dk_182 (by decide +kernel)
theorem dX11_putText_7 : decode cX11_putText 7 = .ok (.if_icmp .ge 18, 3) := dk_162 (by decide +kernel)
theorem dX11_putText_10 : decode cX11_putText 10 = .ok (.aload_n 0, 1) := dk_42 (by decide +kernel)
theorem dX11_putText_11 : decode cX11_putText 11 = .ok (.aload_n 1, 1) := dk_43 (by decide +kernel)
theorem dX11_putText_12 : decode cX11_putText 12 = .ok (.iload_n 2, 1) := dk_28 (by decide +kernel)
theorem dX11_putText_13 : decode cX11_putText 13 = .ok (.invokevirtual 238, 3) := dk_182 (by decide +kernel)
theorem dX11_putText_16 : decode cX11_putText 16 = .ok (.invokevirtual 242, 3) := dk_182 (by decide +kernel)
theorem dX11_putText_19 : decode cX11_putText 19 = .ok (.iinc 2 1, 3) := dk_132 (by decide +kernel)
theorem dX11_putText_22 : decode cX11_putText 22 = .ok (.goto (-20), 3) := dk_167 (by decide +kernel)
theorem dX11_putText_25 : decode cX11_putText 25 = .ok (.return_, 1) := dk_177 (by decide +kernel)
def wsMX11_putText : List Cond := .code yX11_putText cX11_putText 3 none :: ([] ++ (wsV RX11 234 RJ0 yJ0_length_8abf5 wsMJ0_length_8abf5) ++ (wsV RX11 238 RJ0 yJ0_charAt_5068e wsRJ0ca) ++ (wsV RX11 242 RX11 yX11_put wsMX11_put))
theorem gwsMX11_putText_0 : GoodIn wsMX11_putText (wsV RX11 234 RJ0 yJ0_length_8abf5 wsMJ0_length_8abf5) := goodIn_sub (fun _ h => List.mem_cons_of_mem _ (List.mem_append_left _ (List.mem_append_left _ (List.mem_append_right _ h)))) (gdV (by decide +kernel) gdwsMJ0_length_8abf5)
theorem gwsMX11_putText_1 : GoodIn wsMX11_putText (wsV RX11 238 RJ0 yJ0_charAt_5068e wsRJ0ca) := goodIn_sub (fun _ h => List.mem_cons_of_mem _ (List.mem_append_left _ (List.mem_append_right _ h))) (gdV (by decide +kernel) gdwsRJ0ca)
theorem gwsMX11_putText_2 : GoodIn wsMX11_putText (wsV RX11 242 RX11 yX11_put wsMX11_put) := goodIn_sub (fun _ h => List.mem_cons_of_mem _ (List.mem_append_right _ h)) (gdV (by decide +kernel) gdwsMX11_put)
theorem gdwsMX11_putText : wsMX11_putText.all goodWord = true := gdC rfl (gdA (gdA (gdA (by decide +kernel : ([] : List Cond).all goodWord = true) (gdV (by decide +kernel) gdwsMJ0_length_8abf5)) (gdV (by decide +kernel) gdwsRJ0ca)) (gdV (by decide +kernel) gdwsMX11_put))
set_option maxHeartbeats 4000000 in
set_option maxRecDepth 100000 in
/-- a text more -/
theorem m_X11_putText (l : Launch) (dC : Nat → ClassId) (dI : Nat → Nat → Nat) (hX : Nat → Nat) (aX : Nat → Nat) (kX : Nat → ClassId) (hT : Nat → Nat) (hM : Nat → Nat) (fX_ready : Nat → Int32) (fX_sheet : Nat → Int32) (dX_sheet : Nat) (nX_sheet : Nat) (iX_sheetLength : Int32) (xX_reader : Value) (xX_solver : Value) (xX_prover : Value) (xX_values : Value) (xX_clauses : Value) (xX_nets : Value) (qS : Nat) (nn : Nat) (fB : Nat → Int32) (b_fX_sheet : ∀ q : Nat, (-128) ≤ (fX_sheet q).toInt ∧ (fX_sheet q).toInt ≤ 127) (b_nX_sheet : 64 ≤ nX_sheet ∧ nX_sheet ≤ 60000) (b_iX_sheetLength : 0 ≤ iX_sheetLength.toInt ∧ iX_sheetLength.toInt ≤ 30000) (b_shl : iX_sheetLength.toInt ≤ ((nX_sheet : Nat) : Int)) (hnn : nn ≤ 1000) (sz : Nat) : Met l yX11_putText wsMX11_putText ({ frames := 4, cells := 3751, slots := 300000, locals := 85 }) (va_Pc [.ref (hX 0), .ref qS] (fun U => U.heap.size = sz ∧ va_P (dC, dI) vwCl (WX hX aX kX hT hM fX_ready fX_sheet dX_sheet nX_sheet iX_sheetLength xX_reader xX_solver xX_prover xX_values xX_clauses xX_nets) U.heap ∧ va_K (dC, dI) vwCl (tX kX) U ∧ va_D (fun _ => True) (WX hX aX kX hT hM fX_ready fX_sheet dX_sheet nX_sheet iX_sheetLength xX_reader xX_solver xX_prover xX_values xX_clauses xX_nets) ∧ (StrE qS nn fB) (va_A (WX hX aX kX hT hM fX_ready fX_sheet dX_sheet nX_sheet iX_sheetLength xX_reader xX_solver xX_prover xX_values xX_clauses xX_nets) sz) U U.heap)) (va_Qv (fun (u : (Nat → Int32) × (Nat) × (Nat) × (Int32)) => (∀ q : Nat, (-128) ≤ ((u.1) q).toInt ∧ ((u.1) q).toInt ≤ 127) ∧ (64 ≤ (u.2.2.1) ∧ (u.2.2.1) ≤ 60000) ∧ (0 ≤ (u.2.2.2).toInt ∧ (u.2.2.2).toInt ≤ 30000) ∧ ((u.2.2.2).toInt ≤ (((u.2.2.1) : Nat) : Int)) ∧ (nX_sheet ≤ (u.2.2.1)) ∧ (iX_sheetLength.toInt ≤ (u.2.2.2).toInt)) (fun (u : (Nat → Int32) × (Nat) × (Nat) × (Int32)) t => va_P (dC, dI) vwCl (WX hX aX kX hT hM fX_ready (u.1) (u.2.1) (u.2.2.1) (u.2.2.2) xX_reader xX_solver xX_prover xX_values xX_clauses xX_nets) t.heap ∧ va_D (va_A (WX hX aX kX hT hM fX_ready fX_sheet dX_sheet nX_sheet iX_sheetLength xX_reader xX_solver xX_prover xX_values xX_clauses xX_nets) sz) (WX hX aX kX hT hM fX_ready (u.1) (u.2.1) (u.2.2.1) (u.2.2.2) xX_reader xX_solver xX_prover xX_values xX_clauses xX_nets) ∧ t.heap.size + (nX_sheet / 32) ≤ sz + ((u.2.2.1) / 32) ∧ nS sz t.heap + (2 * nX_sheet) ≤ (2 * (u.2.2.1))) (va_A (WX hX aX kX hT hM fX_ready fX_sheet dX_sheet nX_sheet iX_sheetLength xX_reader xX_solver xX_prover xX_values xX_clauses xX_nets) sz)) 3751 300000 (va_A (WX hX aX kX hT hM fX_ready fX_sheet dX_sheet nX_sheet iX_sheetLength xX_reader xX_solver xX_prover xX_values xX_clauses xX_nets) sz) := by
  refine Met.ofW (cc := cX11_putText) (maxL := 3) (ret := none) (by decide) rfl ?_
  intro p e s m args below meth c s₁ B hml hv
  obtain ⟨rfl, hsz, hP, hK, hD0, hE⟩ := hv
  have hx := B.exec
  have hb := B.bytes
  have hr := B.returns
  have hts := atoms_spec (ws := wsMX11_putText) B.pre
  have hown : s.vm.findClass RX11 = some m.cls := findClass_of_methodNamed B.named
  have hlocks := B.notSynchronized
  subst hsz
  have hD := hD0.self (sz := s.heap.size)
  generalize hAe : va_A (WX hX aX kX hT hM fX_ready fX_sheet dX_sheet nX_sheet iX_sheetLength xX_reader xX_solver xX_prover xX_values xX_clauses xX_nets) s.heap.size = A at hD hE ⊢
  have hA : ∀ q : Nat, s.heap.size ≤ q → A q := fun q h => by rw [← hAe]; exact Or.inr h
  have hS : va_S A s.heap s.heap [] := va_S.rf
  have hl := lv_entry ([.ref (hX 0), .ref qS]) (n := 3) (Nat.le_of_ble_eq_true rfl)
  rw [lg_entry_eq]
  generalize (lg_sl ([.ref (hX 0), .ref qS]) ++ List.replicate (3 - (lg_sl ([.ref (hX 0), .ref qS])).length) Slot.unset).toArray = ls at hl ⊢
  have hl : lv_has ls 3 [(0, .ref (hX 0)), (1, .ref qS)] := hl
  refine W.widen (k := (nX_sheet / 32 - (nX_sheet / 32))) (n := (2 * nX_sheet - (2 * nX_sheet))) (Nat.zero_le _) (Nat.zero_le _) ?_
  refine lv_iconst (v := 0) hx hb dX11_putText_0 (by decide) ?_
  refine lv_istore_n hx hb dX11_putText_1 rfl hl (by decide) rfl (fun ls (hl : lv_has ls _ ([(2, .int 0), (0, .ref (hX 0)), (1, .ref qS)])) => ?_)
  have hl : lv_has _ _ ([(2, .int 0), (0, .ref (hX 0)), (1, .ref qS)]) := lv_sub hl [0, 1, 2] rfl
  refine (fun (loop : ∀ (n9 : Nat) (fX_sheet_x2 : Nat → Int32) (dX_sheet_x2 : Nat) (nX_sheet_x2 : Nat) (iX_sheetLength_x2 : Int32) (l2_x2 : Int32) (H : Heap) (locs : List Loc) (ls : Array Slot), (∀ q : Nat, (-128) ≤ (fX_sheet_x2 q).toInt ∧ (fX_sheet_x2 q).toInt ≤ 127) → (64 ≤ nX_sheet_x2 ∧ nX_sheet_x2 ≤ 60000) → (0 ≤ iX_sheetLength_x2.toInt ∧ iX_sheetLength_x2.toInt ≤ 30000) → (0 ≤ l2_x2.toInt ∧ l2_x2.toInt ≤ 1000) → (iX_sheetLength_x2.toInt ≤ ((nX_sheet_x2 : Nat) : Int)) → (iX_sheetLength.toInt ≤ iX_sheetLength_x2.toInt) → (nX_sheet ≤ nX_sheet_x2) → (1000 - l2_x2.toInt < ((n9 : Nat) : Int)) → va_P (dC, dI) vwCl (WX hX aX kX hT hM fX_ready fX_sheet_x2 dX_sheet_x2 nX_sheet_x2 iX_sheetLength_x2 xX_reader xX_solver xX_prover xX_values xX_clauses xX_nets) H → va_D A (WX hX aX kX hT hM fX_ready fX_sheet_x2 dX_sheet_x2 nX_sheet_x2 iX_sheetLength_x2 xX_reader xX_solver xX_prover xX_values xX_clauses xX_nets) → va_S A s.heap H locs → lv_has ls 3 [(2, .int l2_x2), (0, .ref (hX 0)), (1, .ref qS)] → W p l e _ s m _ below meth c H locs (nX_sheet_x2 / 32 - (nX_sheet / 32)) (2 * nX_sheet_x2 - (2 * nX_sheet)) _ (F0 m 2 ls [])) => loop (1001) fX_sheet dX_sheet nX_sheet iX_sheetLength 0 _ _ _ b_fX_sheet (by first | exact b_nX_sheet | with_reducible assumption | exact ⟨by omega, by omega⟩ | assumption) (b_iX_sheetLength) (show 0 ≤ (0 : Int32).toInt ∧ (0 : Int32).toInt ≤ 1000 from by decide) (by first | with_reducible assumption | omega | (rw [iI_t (by omega) (by omega)]; omega) | (have h7 : (0 : Int32).toInt = 0 := (by decide); omega)) (show iX_sheetLength.toInt ≤ iX_sheetLength.toInt from by omega) (show nX_sheet ≤ nX_sheet from by omega) ((by have e9 : (0 : Int32).toInt = 0 := (by decide : (0 : Int32).toInt = 0); omega)) hP hD hS hl) ?_
  intro n9
  induction n9 with
  | zero => intro fX_sheet_x2 dX_sheet_x2 nX_sheet_x2 iX_sheetLength_x2 l2_x2 H locs ls b_fX_sheet_x2 b_nX_sheet_x2 b_iX_sheetLength_x2 b_l2_x2 b_shl_x2 hsl_ hgm0_x2 hf9; exact False.elim (by omega)
  | succ n9 ihx2 =>
    intro fX_sheet_x2 dX_sheet_x2 nX_sheet_x2 iX_sheetLength_x2 l2_x2 H locs ls b_fX_sheet_x2 b_nX_sheet_x2 b_iX_sheetLength_x2 b_l2_x2 b_shl_x2 hsl_ hgm0_x2 hfx2 hP hD hS hl
    refine lv_iload_n hx hb dX11_putText_2 rfl (lv_at hl 0 rfl) ?_
    refine lv_aload_n hx hb dX11_putText_3 rfl (lv_at hl 2 rfl) ?_
    have hFc := noneFree hS hA
    refine va_calli (va_runV (As := []) (rest := [.int l2_x2]) ⟨hx, hb, hml, hown, hts⟩ (m_J0_length_8abf5 l dC dI qS nn fB (by first | with_reducible assumption | omega | (rw [iI_t (by omega) (by omega)]; omega) | decide | assumption) H.size) (cwV 0 hts gwsMX11_putText_0 rfl rfl rfl (by decide +kernel) ⟨by first | decide +kernel | (dsimp only [headSpec] <;> omega), by first | decide +kernel | (dsimp only [headSpec] <;> omega)⟩) ⟨fun a U g mk q => by obtain ⟨q0, q1, qP, qK, qD, qE⟩ := q; exact ⟨q0, q1, qP, va_K.moved (u := U) (U := U.calling g mk a) (Vm.Alike.refl U.vm) qK, qD, qE.same rfl⟩, hE.recv hS, fun U hU9 hW => ⟨rfl, by rw [hU9], by rw [hU9]; exact nilP, va_K.moved hW.alike (hK.sub (tys' := []) [] rfl), nilD, by rw [hU9]; exact (((hE : (StrE qS nn fB) A s s.heap).kept hS.2.1).narrow (fun q h => hFc q h)).warm hW⟩⟩ rfl rfl hl.1 rfl (lv_room (Nat.le_of_ble_eq_true rfl)) dX11_putText_4 ⟨by first | decide +kernel | (dsimp only [headSpec] <;> omega), by first | decide +kernel | (dsimp only [headSpec] <;> omega)⟩) hS (fun q _ h => hFc q h) hFc (fun r15 u t9_ H1 locs ht hvm hw9 hB9 hz1 hk1 hS => ?_)
    have f15_0 := hw9
    try dsimp only at f15_0
    clear hB9
    have hP := keepAll hP hk1
    generalize H1 = H at hP hS ⊢
    have hP : va_P (dC, dI) vwCl (WX hX aX kX hT hM fX_ready fX_sheet_x2 dX_sheet_x2 nX_sheet_x2 iX_sheetLength_x2 xX_reader xX_solver xX_prover xX_values xX_clauses xX_nets) H := hP
    have hD := fz_sd hP (hD) rfl
    have hlen : r15.toInt = ((nn : Nat) : Int) := f15_0
    refine lv_icmp_ge (tgt := 25) hx hb dX11_putText_7 (by decide) (fun c_7 => ?_) (fun c_7 => ?_)
    · have t_7 : l2_x2.toInt ≥ r15.toInt := toI_ge c_7 rfl rfl
      refine W.known (fun hz9 hn9 => ?_)
      refine W.widen (k := 3751) (n := 300000) (by omega) (by omega) ?_
      exact W.vret hx hb hr (fun t9_ ht hW => ⟨⟨(fX_sheet_x2, dX_sheet_x2, nX_sheet_x2, iX_sheetLength_x2), rfl, ⟨b_fX_sheet_x2, (by (try dsimp only); exact (by first | exact b_nX_sheet_x2 | with_reducible assumption | exact ⟨by omega, by omega⟩ | assumption)), b_iX_sheetLength_x2, (by (try dsimp only); exact (by first | with_reducible assumption | omega | (rw [iI_t (by omega) (by omega)]; omega) | (have h7 : (0 : Int32).toInt = 0 := (by decide); omega))), (by (try dsimp only); omega), (by (try dsimp only); first | omega | (rw [iI_t (by omega) (by omega)]; omega))⟩, by rw [ht]; exact hP, hD, by rw [ht]; (try dsimp only); omega, by rw [ht]; (try dsimp only); omega⟩, hS.F ht⟩) hS.2.2 dX11_putText_25
    · have t_7 : ¬ l2_x2.toInt ≥ r15.toInt := toI_nge c_7 rfl rfl
      refine lv_aload_n hx hb dX11_putText_10 rfl (lv_at hl 1 rfl) ?_
      refine lv_aload_n hx hb dX11_putText_11 rfl (lv_at hl 2 rfl) ?_
      refine lv_iload_n hx hb dX11_putText_12 rfl (lv_at hl 0 rfl) ?_
      refine lv_topi (fun y19 hy19 => ?_)
      obtain rfl : (nI l2_x2.toInt.toNat) = y19 := (hy19.trans (toN rfl (by omega))).symm
      have hFc := noneFree hS hA
      refine va_calli (va_runV (As := [.int (nI l2_x2.toInt.toNat)]) (rest := [.ref (hX 0)]) ⟨hx, hb, hml, hown, hts⟩ (r_J0_charAt_5068e l dC dI qS fB l2_x2.toInt.toNat nn (by omega) (by omega) H.size) (cwV 1 hts gwsMX11_putText_1 rfl rfl rfl (by decide +kernel) ⟨by first | decide +kernel | (dsimp only [headSpec] <;> omega), by first | decide +kernel | (dsimp only [headSpec] <;> omega)⟩) ⟨fun a U g mk q => by obtain ⟨q0, q1, qP, qK, qD, qE⟩ := q; exact ⟨q0, q1, qP, va_K.moved (u := U) (U := U.calling g mk a) (Vm.Alike.refl U.vm) qK, qD, qE.same rfl⟩, hE.recv hS, fun U hU9 hW => ⟨rfl, by rw [hU9], by rw [hU9]; exact nilP, va_K.moved hW.alike (hK.sub (tys' := []) [] rfl), nilD, by rw [hU9]; exact (((hE : (StrE qS nn fB) A s s.heap).kept hS.2.1).narrow (fun q h => hFc q h)).warm hW⟩⟩ rfl rfl hl.1 rfl (lv_room (Nat.le_of_ble_eq_true rfl)) dX11_putText_13 ⟨by first | decide +kernel | (dsimp only [headSpec] <;> omega), by first | decide +kernel | (dsimp only [headSpec] <;> omega)⟩) hS (fun q _ h => hFc q h) hFc (fun r20 u t9_ H1 locs ht hvm hw9 hB9 hz1 hk1 hS => ?_)
      revert hw9
      refine fz_a2 ?_
      intro f20_0 f20_1
      clear hB9
      have hP := keepAll hP hk1
      generalize H1 = H at hP hS ⊢
      have hP : va_P (dC, dI) vwCl (WX hX aX kX hT hM fX_ready fX_sheet_x2 dX_sheet_x2 nX_sheet_x2 iX_sheetLength_x2 xX_reader xX_solver xX_prover xX_values xX_clauses xX_nets) H := hP
      have hD := fz_sd hP (hD) rfl
      refine W.known (fun hz0 hn0 => ?_)
      have hS0 := hS.1
      have hFc := allFree hD hS hA
      refine va_callv (va_runV (As := [.int r20]) (rest := []) ⟨hx, hb, hml, hown, hts⟩ (Met.sV (m_X11_put l dC dI hX aX kX hT hM fX_ready fX_sheet_x2 dX_sheet_x2 nX_sheet_x2 iX_sheetLength_x2 xX_reader xX_solver xX_prover xX_values xX_clauses xX_nets r20 b_fX_sheet_x2 (by first | exact b_nX_sheet_x2 | with_reducible assumption | exact ⟨by omega, by omega⟩ | assumption) (b_iX_sheetLength_x2) (by first | with_reducible assumption | omega | (rw [iI_t (by omega) (by omega)]; omega) | (have h7 : (0 : Int32).toInt = 0 := (by decide); omega)) H.size) H) (cwV 1 hts gwsMX11_putText_2 rfl rfl rfl (by decide +kernel) ⟨by first | decide +kernel | (dsimp only [headSpec] <;> omega), by first | decide +kernel | (dsimp only [headSpec] <;> omega)⟩) ⟨fun a U g mk q => by obtain ⟨q0, qh, q1, qP, qK, qD⟩ := q; exact ⟨q0, qh, q1, qP, va_K.moved (u := U) (U := U.calling g mk a) (Vm.Alike.refl U.vm) qK, qD⟩, va_recv hK hP (ci := 11) (q0 := 0) rfl rfl, fun U hU9 hW => ⟨rfl, hU9, by rw [hU9], by rw [hU9]; exact hP, va_K.moved hW.alike hK, hD.weaken (fun _ _ _ _ => trivial)⟩⟩ rfl rfl hl.1 rfl (lv_room (Nat.le_of_ble_eq_true rfl)) dX11_putText_16 ⟨by first | decide +kernel | (dsimp only [headSpec] <;> omega), by first | decide +kernel | (dsimp only [headSpec] <;> omega)⟩) hS (fun q _ h => hFc q h) hFc (fun u t9_ H locs ht hvm hw9 hB9 hz1 hk1 hS => ?_)
      revert u hw9 hB9
      refine fz_p4 ?_
      intro fX_sheet_21 dX_sheet_21 nX_sheet_21 iX_sheetLength_21 hw9 hB9
      try dsimp only at hw9 hB9
      revert hw9
      refine fz_a6 ?_
      intro b_fX_sheet_21 b_nX_sheet_21 b_iX_sheetLength_21 b_shl_21 f21_0 f21_1
      have hg1 := hB9.1.2.2.1
      rw [ht] at hg1
      have hg2 := hB9.1.2.2.2
      rw [ht] at hg2
      have hSz := hB9.2
      rw [ht] at hSz
      have hP : va_P (dC, dI) vwCl (WX hX aX kX hT hM fX_ready fX_sheet_21 dX_sheet_21 nX_sheet_21 iX_sheetLength_21 xX_reader xX_solver xX_prover xX_values xX_clauses xX_nets) H := fz_P ht hB9.1.1
      have hD := fz_sd hP (hB9.1.2.1.weaken (fun _ q _ h => hFc q.1 h)) rfl
      have hz9 : H.size ≤ s.heap.size + (nX_sheet_21 / 32 - (nX_sheet / 32)) := by (try dsimp only at hg1); omega
      have hn9 : nS s.heap.size H ≤ (2 * nX_sheet_21 - (2 * nX_sheet)) := by rw [hSz.n hS0]; (try dsimp only at hg2); omega
      refine W.tight (cells2 := (nX_sheet_21 / 32 - (nX_sheet / 32))) (slots2 := (2 * nX_sheet_21 - (2 * nX_sheet))) hz9 hn9 ?_
      clear hz9 hn9 hz0 hn0 hS0 hSz hg1 hg2
      refine lv_iinc (v := (iI (l2_x2.toInt + 1))) hx hb dX11_putText_19 hl (k := 0) rfl (iI_add2 (iI_of _) (by decide : (1 : Int32) = iI 1)) (by decide) rfl (fun ls (hl : lv_has ls _ ([(2, .int (iI (l2_x2.toInt + 1))), (0, .ref (hX 0)), (1, .ref qS)])) => ?_)
      refine lv_goto (tgt := 2) hx hb dX11_putText_22 (by decide) ?_
      have hl : lv_has _ _ ([(2, .int (iI (l2_x2.toInt + 1))), (0, .ref (hX 0)), (1, .ref qS)]) := lv_sub hl [0, 1, 2] rfl
      exact ihx2 fX_sheet_21 dX_sheet_21 nX_sheet_21 iX_sheetLength_21 (iI (l2_x2.toInt + 1)) _ _ _ b_fX_sheet_21 (by first | exact b_nX_sheet_21 | with_reducible assumption | exact ⟨by omega, by omega⟩ | assumption) (b_iX_sheetLength_21) (iI_rng (Int.le_trans (by decide) (Int.add_le_add (b_l2_x2.1) (Int.le_refl _))) (by omega) (by decide) (by decide)) (by first | with_reducible assumption | omega | (rw [iI_t (by omega) (by omega)]; omega) | (have h7 : (0 : Int32).toInt = 0 := (by decide); omega)) (show iX_sheetLength.toInt ≤ iX_sheetLength_21.toInt from by omega) (show nX_sheet ≤ nX_sheet_21 from by omega) (by have e9 : ((iI (l2_x2.toInt + 1))).toInt = (l2_x2.toInt + 1) := (iI_t (Int.le_trans (by decide) (Int.add_le_add (b_l2_x2.1) (Int.le_refl _))) (Int.le_trans (Int.add_le_add (b_l2_x2.2) (Int.le_refl _)) (by decide))); omega) hP hD hS hl
theorem dX11_putNumber_0 : decode cX11_putNumber 0 = .ok (.iload_n 1, 1) := dk_27 (by decide +kernel)
theorem dX11_putNumber_1 : decode cX11_putNumber 1 = .ok (.ifCond .ge 9, 3) := dk_156 (by decide +kernel)
theorem dX11_putNumber_4 : decode cX11_putNumber 4 = .ok (.aload_n 0, 1) := dk_42 (by decide +kernel)
theorem dX11_putNumber_5 : decode cX11_putNumber 5 = .ok (.bipush 45, 2) := dk_16 (by decide +kernel)
theorem dX11_putNumber_7 : decode cX11_putNumber 7 = .ok (.invokevirtual 242, 3) := dk_182 (by decide +kernel)
theorem dX11_putNumber_10 : decode cX11_putNumber 10 = .ok (.aload_n 0, 1) := dk_42 (by decide +kernel)
theorem dX11_putNumber_11 : decode cX11_putNumber 11 = .ok (.getfield 138, 3) := dk_180 (by decide +kernel)
theorem dX11_putNumber_14 : decode cX11_putNumber 14 = .ok (.istore_n 2, 1) := dk_61 (by decide +kernel)
theorem dX11_putNumber_15 : decode cX11_putNumber 15 = .ok (.iload_n 1, 1) := dk_27 (by decide +kernel)
theorem dX11_putNumber_16 : decode cX11_putNumber 16 = .ok (.ifCond .ge 8, 3) := dk_156 (by decide +kernel)
theorem dX11_putNumber_19 : decode cX11_putNumber 19 = .ok (.iload_n 1, 1) := dk_27 (by decide +kernel)
theorem dX11_putNumber_20 : decode cX11_putNumber 20 = .ok (.ineg, 1) := dk_116 (by decide +kernel)
theorem dX11_putNumber_21 : decode cX11_putNumber 21 = .ok (.goto 4, 3) := dk_167 (by decide +kernel)
theorem dX11_putNumber_24 : decode cX11_putNumber 24 = .ok (.iload_n 1, 1) := dk_27 (by decide +kernel)
theorem dX11_putNumber_25 : decode cX11_putNumber 25 = .ok (.istore_n 3, 1) := dk_62 (by decide +kernel)
theorem dX11_putNumber_26 : decode cX11_putNumber 26 = .ok (.iconst 0, 1) := dk_3 (by decide +kernel)
theorem dX11_putNumber_27 : decode cX11_putNumber 27 = .ok (.istore 4, 2) := dk_54 (by decide +kernel)
theorem dX11_putNumber_29 : decode cX11_putNumber 29 = .ok (.iload 4, 2) := dk_21 (by decide +kernel)
theorem dX11_putNumber_31 : decode cX11_putNumber 31 = .ok (.bipush 10, 2) := dk_16 (by decide +kernel)
theorem dX11_putNumber_33 : decode cX11_putNumber 33 = .ok (.if_icmp .ge 34, 3) := dk_162 (by decide +kernel)
theorem dX11_putNumber_36 : decode cX11_putNumber 36 = .ok (.iload 4, 2) := dk_21 (by decide +kernel)
theorem dX11_putNumber_38 : decode cX11_putNumber 38 = .ok (.ifCond .eq 7, 3) := dk_153 (by decide +kernel)
theorem dX11_putNumber_41 : decode cX11_putNumber 41 = .ok (.iload_n 3, 1) := dk_29 (by decide +kernel)
theorem dX11_putNumber_42 : decode cX11_putNumber 42 = .ok (.ifCond .eq 25, 3) := dk_153 (by decide +kernel)
theorem dX11_putNumber_45 : decode cX11_putNumber 45 = .ok (.aload_n 0, 1) := dk_42 (by decide +kernel)
theorem dX11_putNumber_46 : decode cX11_putNumber 46 = .ok (.bipush 48, 2) := dk_16 (by decide +kernel)
theorem dX11_putNumber_48 : decode cX11_putNumber 48 = .ok (.iload_n 3, 1) := dk_29 (by decide +kernel)
theorem dX11_putNumber_49 : decode cX11_putNumber 49 = .ok (.bipush 10, 2) := dk_16 (by decide +kernel)
theorem dX11_putNumber_51 : decode cX11_putNumber 51 = .ok (.irem, 1) := dk_112 (by decide +kernel)
theorem dX11_putNumber_52 : decode cX11_putNumber 52 = .ok (.iadd, 1) := dk_96 (by decide +kernel)
theorem dX11_putNumber_53 : decode cX11_putNumber 53 = .ok (.invokevirtual 242, 3) := dk_182 (by decide +kernel)
theorem dX11_putNumber_56 : decode cX11_putNumber 56 = .ok (.iload_n 3, 1) := dk_29 (by decide +kernel)
theorem dX11_putNumber_57 : decode cX11_putNumber 57 = .ok (.bipush 10, 2) := dk_16 (by decide +kernel)
theorem dX11_putNumber_59 : decode cX11_putNumber 59 = .ok (.idiv, 1) := dk_108 (by decide +kernel)
theorem dX11_putNumber_60 : decode cX11_putNumber 60 = .ok (.istore_n 3, 1) := dk_62 (by decide +kernel)
theorem dX11_putNumber_61 : decode cX11_putNumber 61 = .ok (.iinc 4 1, 3) := dk_132 (by decide +kernel)
theorem dX11_putNumber_64 : decode cX11_putNumber 64 = .ok (.goto (-35), 3) := dk_167 (by decide +kernel)
theorem dX11_putNumber_67 : decode cX11_putNumber 67 = .ok (.aload_n 0, 1) := dk_42 (by decide +kernel)
theorem dX11_putNumber_68 : decode cX11_putNumber 68 = .ok (.iload_n 2, 1) := dk_28 (by decide +kernel)
theorem dX11_putNumber_69 : decode cX11_putNumber 69 = .ok (.invokevirtual 245, 3) := dk_182 (by decide +kernel)
theorem dX11_putNumber_72 : decode cX11_putNumber 72 = .ok (.return_, 1) := dk_177 (by decide +kernel)
def wsMX11_putNumber : List Cond := .code yX11_putNumber cX11_putNumber 5 none :: ([.fieldLink RX11 138 "OptimaWorks" "sheetLength" "I"] ++ wsX110 ++ (wsV RX11 242 RX11 yX11_put wsMX11_put) ++ (wsV RX11 245 RX11 yX11_turnRound wsMX11_turnRound))
theorem iwsMX11_putNumber_in11 : ∀ w ∈ wsX110, w ∈ wsMX11_putNumber := fun _ h => List.mem_cons_of_mem _ (List.mem_append_left _ (List.mem_append_left _ (List.mem_append_right _ h)))
theorem gwsMX11_putNumber_0 : GoodIn wsMX11_putNumber (wsV RX11 242 RX11 yX11_put wsMX11_put) := goodIn_sub (fun _ h => List.mem_cons_of_mem _ (List.mem_append_left _ (List.mem_append_right _ h))) (gdV (by decide +kernel) gdwsMX11_put)
theorem gwsMX11_putNumber_1 : GoodIn wsMX11_putNumber (wsV RX11 245 RX11 yX11_turnRound wsMX11_turnRound) := goodIn_sub (fun _ h => List.mem_cons_of_mem _ (List.mem_append_right _ h)) (gdV (by decide +kernel) gdwsMX11_turnRound)
theorem gdwsMX11_putNumber : wsMX11_putNumber.all goodWord = true := gdC rfl (gdA (gdA (gdA (by decide +kernel : ([.fieldLink RX11 138 "OptimaWorks" "sheetLength" "I"] : List Cond).all goodWord = true) gdwsX110) (gdV (by decide +kernel) gdwsMX11_put)) (gdV (by decide +kernel) gdwsMX11_turnRound))
set_option maxHeartbeats 4000000 in
set_option maxRecDepth 100000 in
/-- a number more -/
theorem m_X11_putNumber (l : Launch) (dC : Nat → ClassId) (dI : Nat → Nat → Nat) (hX : Nat → Nat) (aX : Nat → Nat) (kX : Nat → ClassId) (hT : Nat → Nat) (hM : Nat → Nat) (fX_ready : Nat → Int32) (fX_sheet : Nat → Int32) (dX_sheet : Nat) (nX_sheet : Nat) (iX_sheetLength : Int32) (xX_reader : Value) (xX_solver : Value) (xX_prover : Value) (xX_values : Value) (xX_clauses : Value) (xX_nets : Value) (p1 : Int32) (b_fX_sheet : ∀ q : Nat, (-128) ≤ (fX_sheet q).toInt ∧ (fX_sheet q).toInt ≤ 127) (b_nX_sheet : 64 ≤ nX_sheet ∧ nX_sheet ≤ 60000) (b_iX_sheetLength : 0 ≤ iX_sheetLength.toInt ∧ iX_sheetLength.toInt ≤ 30000) (b_shl : iX_sheetLength.toInt ≤ ((nX_sheet : Nat) : Int)) (sz : Nat) : Met l yX11_putNumber wsMX11_putNumber ({ frames := 3, cells := 3751, slots := 300000, locals := 61 }) (va_Pc [.ref (hX 0), .int p1] (fun U => U.heap.size = sz ∧ va_P (dC, dI) vwCl (WX hX aX kX hT hM fX_ready fX_sheet dX_sheet nX_sheet iX_sheetLength xX_reader xX_solver xX_prover xX_values xX_clauses xX_nets) U.heap ∧ va_K (dC, dI) vwCl (tX kX) U ∧ va_D (fun _ => True) (WX hX aX kX hT hM fX_ready fX_sheet dX_sheet nX_sheet iX_sheetLength xX_reader xX_solver xX_prover xX_values xX_clauses xX_nets))) (va_Qv (fun (u : (Nat → Int32) × (Nat) × (Nat) × (Int32)) => (∀ q : Nat, (-128) ≤ ((u.1) q).toInt ∧ ((u.1) q).toInt ≤ 127) ∧ (64 ≤ (u.2.2.1) ∧ (u.2.2.1) ≤ 60000) ∧ (0 ≤ (u.2.2.2).toInt ∧ (u.2.2.2).toInt ≤ 30000) ∧ ((u.2.2.2).toInt ≤ (((u.2.2.1) : Nat) : Int)) ∧ (nX_sheet ≤ (u.2.2.1)) ∧ (iX_sheetLength.toInt ≤ (u.2.2.2).toInt)) (fun (u : (Nat → Int32) × (Nat) × (Nat) × (Int32)) t => va_P (dC, dI) vwCl (WX hX aX kX hT hM fX_ready (u.1) (u.2.1) (u.2.2.1) (u.2.2.2) xX_reader xX_solver xX_prover xX_values xX_clauses xX_nets) t.heap ∧ va_D (va_A (WX hX aX kX hT hM fX_ready fX_sheet dX_sheet nX_sheet iX_sheetLength xX_reader xX_solver xX_prover xX_values xX_clauses xX_nets) sz) (WX hX aX kX hT hM fX_ready (u.1) (u.2.1) (u.2.2.1) (u.2.2.2) xX_reader xX_solver xX_prover xX_values xX_clauses xX_nets) ∧ t.heap.size + (nX_sheet / 32) ≤ sz + ((u.2.2.1) / 32) ∧ nS sz t.heap + (2 * nX_sheet) ≤ (2 * (u.2.2.1))) (va_A (WX hX aX kX hT hM fX_ready fX_sheet dX_sheet nX_sheet iX_sheetLength xX_reader xX_solver xX_prover xX_values xX_clauses xX_nets) sz)) 3751 300000 (va_A (WX hX aX kX hT hM fX_ready fX_sheet dX_sheet nX_sheet iX_sheetLength xX_reader xX_solver xX_prover xX_values xX_clauses xX_nets) sz) := by
  refine Met.ofW (cc := cX11_putNumber) (maxL := 5) (ret := none) (by decide) rfl ?_
  intro p e s m args below meth c s₁ B hml hv
  obtain ⟨rfl, hsz, hP, hK, hD0⟩ := hv
  have hx := B.exec
  have hb := B.bytes
  have hr := B.returns
  have hts := atoms_spec (ws := wsMX11_putNumber) B.pre
  have hown : s.vm.findClass RX11 = some m.cls := findClass_of_methodNamed B.named
  have hlocks := B.notSynchronized
  subst hsz
  have hD := hD0.self (sz := s.heap.size)
  generalize hAe : va_A (WX hX aX kX hT hM fX_ready fX_sheet dX_sheet nX_sheet iX_sheetLength xX_reader xX_solver xX_prover xX_values xX_clauses xX_nets) s.heap.size = A at hD ⊢
  have hA : ∀ q : Nat, s.heap.size ≤ q → A q := fun q h => by rw [← hAe]; exact Or.inr h
  have hS : va_S A s.heap s.heap [] := va_S.rf
  have hl := lv_entry ([.ref (hX 0), .int p1]) (n := 5) (Nat.le_of_ble_eq_true rfl)
  rw [lg_entry_eq]
  generalize (lg_sl ([.ref (hX 0), .int p1]) ++ List.replicate (5 - (lg_sl ([.ref (hX 0), .int p1])).length) Slot.unset).toArray = ls at hl ⊢
  have hl : lv_has ls 5 [(0, .ref (hX 0)), (1, .int p1)] := hl
  refine W.widen (k := (nX_sheet / 32 - (nX_sheet / 32))) (n := (2 * nX_sheet - (2 * nX_sheet))) (Nat.zero_le _) (Nat.zero_le _) ?_
  refine lv_iload_n hx hb dX11_putNumber_0 rfl (lv_at hl 1 rfl) ?_
  refine W.known (fun hzk hnk => ?_)
  refine W.widen (k := 1875) (n := 120000) (by omega) (by omega) ?_
  refine W.cut (pc := 10) (fun H locs ls stk => ∃ (fX_sheet_j5 : Nat → Int32) (dX_sheet_j5 : Nat) (nX_sheet_j5 : Nat) (iX_sheetLength_j5 : Int32), (∀ q : Nat, (-128) ≤ (fX_sheet_j5 q).toInt ∧ (fX_sheet_j5 q).toInt ≤ 127) ∧ (64 ≤ nX_sheet_j5 ∧ nX_sheet_j5 ≤ 60000) ∧ (0 ≤ iX_sheetLength_j5.toInt ∧ iX_sheetLength_j5.toInt ≤ 30000) ∧ (iX_sheetLength_j5.toInt ≤ ((nX_sheet_j5 : Nat) : Int)) ∧ (iX_sheetLength.toInt ≤ iX_sheetLength_j5.toInt) ∧ (nX_sheet ≤ nX_sheet_j5) ∧ (H.size + (nX_sheet / 32) ≤ s.heap.size + (nX_sheet_j5 / 32) ∧ nS s.heap.size H + (2 * nX_sheet) ≤ (2 * nX_sheet_j5)) ∧  stk = [] ∧ va_P (dC, dI) vwCl (WX hX aX kX hT hM fX_ready fX_sheet_j5 dX_sheet_j5 nX_sheet_j5 iX_sheetLength_j5 xX_reader xX_solver xX_prover xX_values xX_clauses xX_nets) H ∧ va_D A (WX hX aX kX hT hM fX_ready fX_sheet_j5 dX_sheet_j5 nX_sheet_j5 iX_sheetLength_j5 xX_reader xX_solver xX_prover xX_values xX_clauses xX_nets) ∧ va_S A s.heap H locs ∧ lv_has ls 5 [(0, .ref (hX 0)), (1, .int p1)]) (fun join5 => ?_) ?_
  · refine W.tight (cells2 := (nX_sheet / 32 - (nX_sheet / 32))) (slots2 := (2 * nX_sheet - (2 * nX_sheet))) hzk hnk ?_
    refine lv_if_ge (tgt := 10) hx hb dX11_putNumber_1 (by decide) (fun c_1 => ?_) (fun c_1 => ?_)
    · have t_1 : p1.toInt ≥ 0 := toI_ge c_1 rfl (by decide : (0 : Int32).toInt = 0)
      have hl : lv_has _ _ ([(0, .ref (hX 0)), (1, .int p1)]) := lv_sub hl [0, 1] rfl
      refine W.known (fun hza hna => ?_)
      refine W.widen (k := 1875) (n := 120000) (by omega) (by omega) ?_
      exact join5 _ _ _ _ ⟨fX_sheet, dX_sheet, nX_sheet, iX_sheetLength, b_fX_sheet, (by first | exact b_nX_sheet | with_reducible assumption | exact ⟨by omega, by omega⟩ | assumption), (b_iX_sheetLength), (by first | with_reducible assumption | omega | (rw [iI_t (by omega) (by omega)]; omega) | (have h7 : (0 : Int32).toInt = 0 := (by decide); omega)), (show iX_sheetLength.toInt ≤ iX_sheetLength.toInt from by omega), (show nX_sheet ≤ nX_sheet from by omega), ⟨by omega, by omega⟩, rfl, hP, hD, hS, hl⟩
    · have t_1 : ¬ p1.toInt ≥ 0 := toI_nge c_1 rfl (by decide : (0 : Int32).toInt = 0)
      refine lv_aload_n hx hb dX11_putNumber_4 rfl (lv_at hl 0 rfl) ?_
      refine lv_bipush (v := 45) hx hb dX11_putNumber_5 (by decide) ?_
      refine W.known (fun hz0 hn0 => ?_)
      have hS0 := hS.1
      have hFc := allFree hD hS hA
      refine va_callv (va_runV (As := [.int 45]) (rest := []) ⟨hx, hb, hml, hown, hts⟩ (Met.sV (m_X11_put l dC dI hX aX kX hT hM fX_ready fX_sheet dX_sheet nX_sheet iX_sheetLength xX_reader xX_solver xX_prover xX_values xX_clauses xX_nets 45 b_fX_sheet (by first | exact b_nX_sheet | with_reducible assumption | exact ⟨by omega, by omega⟩ | assumption) (b_iX_sheetLength) (by first | with_reducible assumption | omega | (rw [iI_t (by omega) (by omega)]; omega) | (have h7 : (0 : Int32).toInt = 0 := (by decide); omega)) s.heap.size) s.heap) (cwV 1 hts gwsMX11_putNumber_0 rfl rfl rfl (by decide +kernel) ⟨by first | decide +kernel | (dsimp only [headSpec] <;> omega), by first | decide +kernel | (dsimp only [headSpec] <;> omega)⟩) ⟨fun a U g mk q => by obtain ⟨q0, qh, q1, qP, qK, qD⟩ := q; exact ⟨q0, qh, q1, qP, va_K.moved (u := U) (U := U.calling g mk a) (Vm.Alike.refl U.vm) qK, qD⟩, va_recv hK hP (ci := 11) (q0 := 0) rfl rfl, fun U hU9 hW => ⟨rfl, hU9, by rw [hU9], by rw [hU9]; exact hP, va_K.moved hW.alike hK, hD.weaken (fun _ _ _ _ => trivial)⟩⟩ rfl rfl hl.1 rfl (lv_room (Nat.le_of_ble_eq_true rfl)) dX11_putNumber_7 ⟨by first | decide +kernel | (dsimp only [headSpec] <;> omega), by first | decide +kernel | (dsimp only [headSpec] <;> omega)⟩) hS (fun q _ h => hFc q h) hFc (fun u t9_ H locs ht hvm hw9 hB9 hz1 hk1 hS => ?_)
      revert u hw9 hB9
      refine fz_p4 ?_
      intro fX_sheet_2 dX_sheet_2 nX_sheet_2 iX_sheetLength_2 hw9 hB9
      try dsimp only at hw9 hB9
      revert hw9
      refine fz_a6 ?_
      intro b_fX_sheet_2 b_nX_sheet_2 b_iX_sheetLength_2 b_shl_2 f2_0 f2_1
      have hg1 := hB9.1.2.2.1
      rw [ht] at hg1
      have hg2 := hB9.1.2.2.2
      rw [ht] at hg2
      have hSz := hB9.2
      rw [ht] at hSz
      have hP : va_P (dC, dI) vwCl (WX hX aX kX hT hM fX_ready fX_sheet_2 dX_sheet_2 nX_sheet_2 iX_sheetLength_2 xX_reader xX_solver xX_prover xX_values xX_clauses xX_nets) H := fz_P ht hB9.1.1
      have hD := fz_sd hP (hB9.1.2.1.weaken (fun _ q _ h => hFc q.1 h)) rfl
      have hz9 : H.size ≤ s.heap.size + (nX_sheet_2 / 32 - (nX_sheet / 32)) := by (try dsimp only at hg1); omega
      have hn9 : nS s.heap.size H ≤ (2 * nX_sheet_2 - (2 * nX_sheet)) := by rw [hSz.n hS0]; (try dsimp only at hg2); omega
      refine W.tight (cells2 := (nX_sheet_2 / 32 - (nX_sheet / 32))) (slots2 := (2 * nX_sheet_2 - (2 * nX_sheet))) hz9 hn9 ?_
      clear hz9 hn9 hz0 hn0 hS0 hSz hg1 hg2
      have hl : lv_has _ _ ([(0, .ref (hX 0)), (1, .int p1)]) := lv_sub hl [0, 1] rfl
      refine W.known (fun hza hna => ?_)
      refine W.widen (k := 1875) (n := 120000) (by omega) (by omega) ?_
      exact join5 _ _ _ _ ⟨fX_sheet_2, dX_sheet_2, nX_sheet_2, iX_sheetLength_2, b_fX_sheet_2, (by first | exact b_nX_sheet_2 | with_reducible assumption | exact ⟨by omega, by omega⟩ | assumption), (b_iX_sheetLength_2), (by first | with_reducible assumption | omega | (rw [iI_t (by omega) (by omega)]; omega) | (have h7 : (0 : Int32).toInt = 0 := (by decide); omega)), (show iX_sheetLength.toInt ≤ iX_sheetLength_2.toInt from by omega), (show nX_sheet ≤ nX_sheet_2 from by omega), ⟨by omega, by omega⟩, rfl, hP, hD, hS, hl⟩
  · intro H locs ls stk
    refine fz_e4 ?_
    intro fX_sheet_j5 dX_sheet_j5 nX_sheet_j5 iX_sheetLength_j5
    refine fz_a12 ?_
    intro b_fX_sheet_j5 b_nX_sheet_j5 b_iX_sheetLength_j5 b_shl_j5 hj1 hgm0_j5 hzn9_6 hst9_7 hP hD hS hl
    have hzj := hzn9_6.1
    have hnj := hzn9_6.2
    clear hzn9_6
    subst hst9_7
    refine W.tight (cells2 := (nX_sheet_j5 / 32 - (nX_sheet / 32))) (slots2 := (2 * nX_sheet_j5 - (2 * nX_sheet))) (tg1 hzj hS.1) (tg2 hnj) ?_
    refine lv_aload_n hx hb dX11_putNumber_10 rfl (lv_at hl 0 rfl) ?_
    refine va_get (D := (dC, dI)) (ci := 11) (v := .int iX_sheetLength_j5) (C := RX11) (T := TX11) (N := 11) hx hb hts iwsMX11_putNumber_in11 hown hK hP 0 rfl rfl 4 (by decide) (hts (.fieldLink RX11 138 "OptimaWorks" "sheetLength" "I") (by decide +kernel)) (fun _ h9 => h9) rfl dX11_putNumber_11 ?_
    refine lv_istore_n hx hb dX11_putNumber_14 rfl hl (by decide) rfl (fun ls (hl : lv_has ls _ ([(2, .int iX_sheetLength_j5), (0, .ref (hX 0)), (1, .int p1)])) => ?_)
    refine lv_iload_n hx hb dX11_putNumber_15 rfl (lv_at hl 2 rfl) ?_
    refine W.known (fun hzk hnk => ?_)
    refine W.widen (k := 1875) (n := 120000) (by omega) (by omega) ?_
    refine W.cut (pc := 25) (fun H locs ls stk => ∃ (k0_j6 : Int32), (H.size + (nX_sheet / 32) ≤ s.heap.size + (nX_sheet_j5 / 32) ∧ nS s.heap.size H + (2 * nX_sheet) ≤ (2 * nX_sheet_j5)) ∧  stk = [.int k0_j6] ∧ va_P (dC, dI) vwCl (WX hX aX kX hT hM fX_ready fX_sheet_j5 dX_sheet_j5 nX_sheet_j5 iX_sheetLength_j5 xX_reader xX_solver xX_prover xX_values xX_clauses xX_nets) H ∧ va_D A (WX hX aX kX hT hM fX_ready fX_sheet_j5 dX_sheet_j5 nX_sheet_j5 iX_sheetLength_j5 xX_reader xX_solver xX_prover xX_values xX_clauses xX_nets) ∧ va_S A s.heap H locs ∧ lv_has ls 5 [(2, .int iX_sheetLength_j5), (0, .ref (hX 0)), (1, .int p1)]) (fun join6 => ?_) ?_
    · refine W.tight (cells2 := (nX_sheet_j5 / 32 - (nX_sheet / 32))) (slots2 := (2 * nX_sheet_j5 - (2 * nX_sheet))) hzk hnk ?_
      refine lv_if_ge (tgt := 24) hx hb dX11_putNumber_16 (by decide) (fun c_16 => ?_) (fun c_16 => ?_)
      · have t_16 : p1.toInt ≥ 0 := toI_ge c_16 rfl (by decide : (0 : Int32).toInt = 0)
        refine lv_iload_n hx hb dX11_putNumber_24 rfl (lv_at hl 2 rfl) ?_
        have hl : lv_has _ _ ([(2, .int iX_sheetLength_j5), (0, .ref (hX 0)), (1, .int p1)]) := lv_sub hl [0, 1, 2] rfl
        refine W.known (fun hza hna => ?_)
        refine W.widen (k := 1875) (n := 120000) (by omega) (by omega) ?_
        exact join6 _ _ _ _ ⟨p1, ⟨by omega, by omega⟩, rfl, hP, hD, hS, hl⟩
      · have t_16 : ¬ p1.toInt ≥ 0 := toI_nge c_16 rfl (by decide : (0 : Int32).toInt = 0)
        refine lv_iload_n hx hb dX11_putNumber_19 rfl (lv_at hl 2 rfl) ?_
        refine lv_ineg hx hb dX11_putNumber_20 ?_
        refine lv_topi (fun y4 hy4 => ?_)
        obtain rfl : (iI (-p1.toInt)) = y4 := (hy4.trans (iI_neg2 (iI_of _))).symm
        refine lv_goto (tgt := 25) hx hb dX11_putNumber_21 (by decide) ?_
        have hl : lv_has _ _ ([(2, .int iX_sheetLength_j5), (0, .ref (hX 0)), (1, .int p1)]) := lv_sub hl [0, 1, 2] rfl
        refine W.known (fun hza hna => ?_)
        refine W.widen (k := 1875) (n := 120000) (by omega) (by omega) ?_
        exact join6 _ _ _ _ ⟨(iI (-p1.toInt)), ⟨by omega, by omega⟩, rfl, hP, hD, hS, hl⟩
    · rintro H locs ls stk ⟨k0_j6, ⟨hzj, hnj⟩, rfl, hP, hD, hS, hl⟩
      refine W.tight (cells2 := (nX_sheet_j5 / 32 - (nX_sheet / 32))) (slots2 := (2 * nX_sheet_j5 - (2 * nX_sheet))) (tg1 hzj hS.1) (tg2 hnj) ?_
      refine lv_istore_n hx hb dX11_putNumber_25 rfl hl (by decide) rfl (fun ls (hl : lv_has ls _ ([(3, .int k0_j6), (2, .int iX_sheetLength_j5), (0, .ref (hX 0)), (1, .int p1)])) => ?_)
      refine lv_iconst (v := 0) hx hb dX11_putNumber_26 (by decide) ?_
      refine lv_istore hx hb dX11_putNumber_27 hl (by decide) rfl (fun ls (hl : lv_has ls _ ([(4, .int 0), (3, .int k0_j6), (2, .int iX_sheetLength_j5), (0, .ref (hX 0)), (1, .int p1)])) => ?_)
      have hl : lv_has _ _ ([(4, .int 0), (3, .int k0_j6), (2, .int iX_sheetLength_j5), (0, .ref (hX 0)), (1, .int p1)]) := lv_sub hl [0, 1, 2, 3, 4] rfl
      refine (fun (loop : ∀ (n9 : Nat) (fX_sheet_x29 : Nat → Int32) (dX_sheet_x29 : Nat) (nX_sheet_x29 : Nat) (iX_sheetLength_x29 : Int32) (l4_x29 : Int32) (l3_x29 : Int32) (H : Heap) (locs : List Loc) (ls : Array Slot), (∀ q : Nat, (-128) ≤ (fX_sheet_x29 q).toInt ∧ (fX_sheet_x29 q).toInt ≤ 127) → (64 ≤ nX_sheet_x29 ∧ nX_sheet_x29 ≤ 60000) → (0 ≤ iX_sheetLength_x29.toInt ∧ iX_sheetLength_x29.toInt ≤ 30000) → (0 ≤ l4_x29.toInt ∧ l4_x29.toInt ≤ 10) → (iX_sheetLength_x29.toInt ≤ ((nX_sheet_x29 : Nat) : Int)) → (iX_sheetLength.toInt ≤ iX_sheetLength_x29.toInt) → (iX_sheetLength_j5.toInt ≤ iX_sheetLength_x29.toInt) → (nX_sheet ≤ nX_sheet_x29) → (10 - l4_x29.toInt < ((n9 : Nat) : Int)) → va_P (dC, dI) vwCl (WX hX aX kX hT hM fX_ready fX_sheet_x29 dX_sheet_x29 nX_sheet_x29 iX_sheetLength_x29 xX_reader xX_solver xX_prover xX_values xX_clauses xX_nets) H → va_D A (WX hX aX kX hT hM fX_ready fX_sheet_x29 dX_sheet_x29 nX_sheet_x29 iX_sheetLength_x29 xX_reader xX_solver xX_prover xX_values xX_clauses xX_nets) → va_S A s.heap H locs → lv_has ls 5 [(4, .int l4_x29), (3, .int l3_x29), (2, .int iX_sheetLength_j5), (0, .ref (hX 0)), (1, .int p1)] → W p l e _ s m _ below meth c H locs (nX_sheet_x29 / 32 - (nX_sheet / 32)) (2 * nX_sheet_x29 - (2 * nX_sheet)) _ (F0 m 29 ls [])) => loop (11) fX_sheet_j5 dX_sheet_j5 nX_sheet_j5 iX_sheetLength_j5 0 k0_j6 _ _ _ b_fX_sheet_j5 (by first | exact b_nX_sheet_j5 | with_reducible assumption | exact ⟨by omega, by omega⟩ | assumption) (b_iX_sheetLength_j5) (show 0 ≤ (0 : Int32).toInt ∧ (0 : Int32).toInt ≤ 10 from by decide) (by first | with_reducible assumption | omega | (rw [iI_t (by omega) (by omega)]; omega) | (have h7 : (0 : Int32).toInt = 0 := (by decide); omega)) (show iX_sheetLength.toInt ≤ iX_sheetLength_j5.toInt from by omega) (show iX_sheetLength_j5.toInt ≤ iX_sheetLength_j5.toInt from by omega) (show nX_sheet ≤ nX_sheet_j5 from by omega) ((by have e9 : (0 : Int32).toInt = 0 := (by decide : (0 : Int32).toInt = 0); omega)) hP hD hS hl) ?_
      intro n9
      induction n9 with
      | zero => intro fX_sheet_x29 dX_sheet_x29 nX_sheet_x29 iX_sheetLength_x29 l4_x29 l3_x29 H locs ls b_fX_sheet_x29 b_nX_sheet_x29 b_iX_sheetLength_x29 b_l4_x29 b_shl_x29 hsl_ hst_ hgm0_x29 hf9; exact False.elim (by omega)
      | succ n9 ihx29 =>
        intro fX_sheet_x29 dX_sheet_x29 nX_sheet_x29 iX_sheetLength_x29 l4_x29 l3_x29 H locs ls b_fX_sheet_x29 b_nX_sheet_x29 b_iX_sheetLength_x29 b_l4_x29 b_shl_x29 hsl_ hst_ hgm0_x29 hfx29 hP hD hS hl
        refine lv_iload hx hb dX11_putNumber_29 (lv_at hl 0 rfl) ?_
        refine lv_bipush (v := 10) hx hb dX11_putNumber_31 (by decide) ?_
        refine W.known (fun hzk hnk => ?_)
        refine W.widen (k := 1875) (n := 120000) (by omega) (by omega) ?_
        refine W.cut (pc := 67) (fun H locs ls stk => (iX_sheetLength.toInt ≤ iX_sheetLength_x29.toInt) ∧ (iX_sheetLength_j5.toInt ≤ iX_sheetLength_x29.toInt) ∧ (H.size + (nX_sheet / 32) ≤ s.heap.size + (nX_sheet_x29 / 32) ∧ nS s.heap.size H + (2 * nX_sheet) ≤ (2 * nX_sheet_x29)) ∧  stk = [] ∧ va_P (dC, dI) vwCl (WX hX aX kX hT hM fX_ready fX_sheet_x29 dX_sheet_x29 nX_sheet_x29 iX_sheetLength_x29 xX_reader xX_solver xX_prover xX_values xX_clauses xX_nets) H ∧ va_D A (WX hX aX kX hT hM fX_ready fX_sheet_x29 dX_sheet_x29 nX_sheet_x29 iX_sheetLength_x29 xX_reader xX_solver xX_prover xX_values xX_clauses xX_nets) ∧ va_S A s.heap H locs ∧ lv_has ls 5 [(4, .int l4_x29), (3, .int l3_x29), (2, .int iX_sheetLength_j5), (0, .ref (hX 0)), (1, .int p1)]) (fun join8 => ?_) ?_
        · refine W.tight (cells2 := (nX_sheet_x29 / 32 - (nX_sheet / 32))) (slots2 := (2 * nX_sheet_x29 - (2 * nX_sheet))) hzk hnk ?_
          refine lv_icmp_ge (tgt := 67) hx hb dX11_putNumber_33 (by decide) (fun c_33 => ?_) (fun c_33 => ?_)
          · have t_33 : l4_x29.toInt ≥ 10 := toI_ge c_33 rfl (by decide : (10 : Int32).toInt = 10)
            have hl : lv_has _ _ ([(4, .int l4_x29), (3, .int l3_x29), (2, .int iX_sheetLength_j5), (0, .ref (hX 0)), (1, .int p1)]) := lv_sub hl [0, 1, 2, 3, 4] rfl
            refine W.known (fun hza hna => ?_)
            refine W.widen (k := 1875) (n := 120000) (by omega) (by omega) ?_
            exact join8 _ _ _ _ ⟨(show iX_sheetLength.toInt ≤ iX_sheetLength_x29.toInt from by omega), (show iX_sheetLength_j5.toInt ≤ iX_sheetLength_x29.toInt from by omega), ⟨by omega, by omega⟩, rfl, hP, hD, hS, hl⟩
          · have t_33 : ¬ l4_x29.toInt ≥ 10 := toI_nge c_33 rfl (by decide : (10 : Int32).toInt = 10)
            refine lv_iload hx hb dX11_putNumber_36 (lv_at hl 0 rfl) ?_
            refine lv_if_eq (tgt := 45) hx hb dX11_putNumber_38 (by decide) (fun c_38 => ?_) (fun c_38 => ?_)
            · have t_38 : l4_x29.toInt = 0 := toI_eq c_38 rfl (by decide : (0 : Int32).toInt = 0)
              refine lv_aload_n hx hb dX11_putNumber_45 rfl (lv_at hl 3 rfl) ?_
              refine lv_bipush (v := 48) hx hb dX11_putNumber_46 (by decide) ?_
              refine lv_iload_n hx hb dX11_putNumber_48 rfl (lv_at hl 1 rfl) ?_
              refine lv_bipush (v := 10) hx hb dX11_putNumber_49 (by decide) ?_
              refine lv_irem hx hb dX11_putNumber_51 (by decide) ?_
              refine lv_topi (fun v34 hv34 => ?_)
              clear hv34
              refine lv_iadd hx hb dX11_putNumber_52 ?_
              refine lv_topi (fun y35 hy35 => ?_)
              obtain rfl : (iI (48 + v34.toInt)) = y35 := (hy35.trans (iI_add2 (by decide : (48 : Int32) = iI 48) (iI_of _))).symm
              refine W.known (fun hz0 hn0 => ?_)
              have hS0 := hS.1
              have hFc := allFree hD hS hA
              refine va_callv (va_runV (As := [.int (iI (48 + v34.toInt))]) (rest := []) ⟨hx, hb, hml, hown, hts⟩ (Met.sV (m_X11_put l dC dI hX aX kX hT hM fX_ready fX_sheet_x29 dX_sheet_x29 nX_sheet_x29 iX_sheetLength_x29 xX_reader xX_solver xX_prover xX_values xX_clauses xX_nets (iI (48 + v34.toInt)) b_fX_sheet_x29 (by first | exact b_nX_sheet_x29 | with_reducible assumption | exact ⟨by omega, by omega⟩ | assumption) (b_iX_sheetLength_x29) (by first | with_reducible assumption | omega | (rw [iI_t (by omega) (by omega)]; omega) | (have h7 : (0 : Int32).toInt = 0 := (by decide); omega)) H.size) H) (cwV 1 hts gwsMX11_putNumber_0 rfl rfl rfl (by decide +kernel) ⟨by first | decide +kernel | (dsimp only [headSpec] <;> omega), by first | decide +kernel | (dsimp only [headSpec] <;> omega)⟩) ⟨fun a U g mk q => by obtain ⟨q0, qh, q1, qP, qK, qD⟩ := q; exact ⟨q0, qh, q1, qP, va_K.moved (u := U) (U := U.calling g mk a) (Vm.Alike.refl U.vm) qK, qD⟩, va_recv hK hP (ci := 11) (q0 := 0) rfl rfl, fun U hU9 hW => ⟨rfl, hU9, by rw [hU9], by rw [hU9]; exact hP, va_K.moved hW.alike hK, hD.weaken (fun _ _ _ _ => trivial)⟩⟩ rfl rfl hl.1 rfl (lv_room (Nat.le_of_ble_eq_true rfl)) dX11_putNumber_53 ⟨by first | decide +kernel | (dsimp only [headSpec] <;> omega), by first | decide +kernel | (dsimp only [headSpec] <;> omega)⟩) hS (fun q _ h => hFc q h) hFc (fun u t9_ H locs ht hvm hw9 hB9 hz1 hk1 hS => ?_)
              revert u hw9 hB9
              refine fz_p4 ?_
              intro fX_sheet_36 dX_sheet_36 nX_sheet_36 iX_sheetLength_36 hw9 hB9
              try dsimp only at hw9 hB9
              revert hw9
              refine fz_a6 ?_
              intro b_fX_sheet_36 b_nX_sheet_36 b_iX_sheetLength_36 b_shl_36 f36_0 f36_1
              have hg1 := hB9.1.2.2.1
              rw [ht] at hg1
              have hg2 := hB9.1.2.2.2
              rw [ht] at hg2
              have hSz := hB9.2
              rw [ht] at hSz
              have hP : va_P (dC, dI) vwCl (WX hX aX kX hT hM fX_ready fX_sheet_36 dX_sheet_36 nX_sheet_36 iX_sheetLength_36 xX_reader xX_solver xX_prover xX_values xX_clauses xX_nets) H := fz_P ht hB9.1.1
              have hD := fz_sd hP (hB9.1.2.1.weaken (fun _ q _ h => hFc q.1 h)) rfl
              have hz9 : H.size ≤ s.heap.size + (nX_sheet_36 / 32 - (nX_sheet / 32)) := by (try dsimp only at hg1); omega
              have hn9 : nS s.heap.size H ≤ (2 * nX_sheet_36 - (2 * nX_sheet)) := by rw [hSz.n hS0]; (try dsimp only at hg2); omega
              refine W.tight (cells2 := (nX_sheet_36 / 32 - (nX_sheet / 32))) (slots2 := (2 * nX_sheet_36 - (2 * nX_sheet))) hz9 hn9 ?_
              clear hz9 hn9 hz0 hn0 hS0 hSz hg1 hg2
              refine lv_iload_n hx hb dX11_putNumber_56 rfl (lv_at hl 1 rfl) ?_
              refine lv_bipush (v := 10) hx hb dX11_putNumber_57 (by decide) ?_
              refine lv_idiv hx hb dX11_putNumber_59 (by decide) ?_
              refine lv_topi (fun v37 hv37 => ?_)
              clear hv37
              refine lv_istore_n hx hb dX11_putNumber_60 rfl hl (by decide) rfl (fun ls (hl : lv_has ls _ ([(3, .int v37), (4, .int l4_x29), (2, .int iX_sheetLength_j5), (0, .ref (hX 0)), (1, .int p1)])) => ?_)
              refine lv_iinc (v := (iI (l4_x29.toInt + 1))) hx hb dX11_putNumber_61 hl (k := 1) rfl (iI_add2 (iI_of _) (by decide : (1 : Int32) = iI 1)) (by decide) rfl (fun ls (hl : lv_has ls _ ([(4, .int (iI (l4_x29.toInt + 1))), (3, .int v37), (2, .int iX_sheetLength_j5), (0, .ref (hX 0)), (1, .int p1)])) => ?_)
              refine lv_goto (tgt := 29) hx hb dX11_putNumber_64 (by decide) ?_
              have hl : lv_has _ _ ([(4, .int (iI (l4_x29.toInt + 1))), (3, .int v37), (2, .int iX_sheetLength_j5), (0, .ref (hX 0)), (1, .int p1)]) := lv_sub hl [0, 1, 2, 3, 4] rfl
              exact ihx29 fX_sheet_36 dX_sheet_36 nX_sheet_36 iX_sheetLength_36 (iI (l4_x29.toInt + 1)) v37 _ _ _ b_fX_sheet_36 (by first | exact b_nX_sheet_36 | with_reducible assumption | exact ⟨by omega, by omega⟩ | assumption) (b_iX_sheetLength_36) (iI_rng (Int.le_trans (by decide) (Int.add_le_add (b_l4_x29.1) (Int.le_refl _))) (by omega) (by decide) (by decide)) (by first | with_reducible assumption | omega | (rw [iI_t (by omega) (by omega)]; omega) | (have h7 : (0 : Int32).toInt = 0 := (by decide); omega)) (show iX_sheetLength.toInt ≤ iX_sheetLength_36.toInt from by omega) (show iX_sheetLength_j5.toInt ≤ iX_sheetLength_36.toInt from by omega) (show nX_sheet ≤ nX_sheet_36 from by omega) (by have e9 : ((iI (l4_x29.toInt + 1))).toInt = (l4_x29.toInt + 1) := (iI_t (Int.le_trans (by decide) (Int.add_le_add (b_l4_x29.1) (Int.le_refl _))) (Int.le_trans (Int.add_le_add (b_l4_x29.2) (Int.le_refl _)) (by decide))); omega) hP hD hS hl
            · have t_38 : ¬ l4_x29.toInt = 0 := toI_neq c_38 rfl (by decide : (0 : Int32).toInt = 0)
              refine lv_iload_n hx hb dX11_putNumber_41 rfl (lv_at hl 1 rfl) ?_
              refine lv_if_eq (tgt := 67) hx hb dX11_putNumber_42 (by decide) (fun c_42 => ?_) (fun c_42 => ?_)
              · have t_42 : l3_x29.toInt = 0 := toI_eq c_42 rfl (by decide : (0 : Int32).toInt = 0)
                have hl : lv_has _ _ ([(4, .int l4_x29), (3, .int l3_x29), (2, .int iX_sheetLength_j5), (0, .ref (hX 0)), (1, .int p1)]) := lv_sub hl [0, 1, 2, 3, 4] rfl
                refine W.known (fun hza hna => ?_)
                refine W.widen (k := 1875) (n := 120000) (by omega) (by omega) ?_
                exact join8 _ _ _ _ ⟨(show iX_sheetLength.toInt ≤ iX_sheetLength_x29.toInt from by omega), (show iX_sheetLength_j5.toInt ≤ iX_sheetLength_x29.toInt from by omega), ⟨by omega, by omega⟩, rfl, hP, hD, hS, hl⟩
              · have t_42 : ¬ l3_x29.toInt = 0 := toI_neq c_42 rfl (by decide : (0 : Int32).toInt = 0)
                refine lv_aload_n hx hb dX11_putNumber_45 rfl (lv_at hl 3 rfl) ?_
                refine lv_bipush (v := 48) hx hb dX11_putNumber_46 (by decide) ?_
                refine lv_iload_n hx hb dX11_putNumber_48 rfl (lv_at hl 1 rfl) ?_
                refine lv_bipush (v := 10) hx hb dX11_putNumber_49 (by decide) ?_
                refine lv_irem hx hb dX11_putNumber_51 (by decide) ?_
                refine lv_topi (fun v38 hv38 => ?_)
                clear hv38
                refine lv_iadd hx hb dX11_putNumber_52 ?_
                refine lv_topi (fun y39 hy39 => ?_)
                obtain rfl : (iI (48 + v38.toInt)) = y39 := (hy39.trans (iI_add2 (by decide : (48 : Int32) = iI 48) (iI_of _))).symm
                refine W.known (fun hz0 hn0 => ?_)
                have hS0 := hS.1
                have hFc := allFree hD hS hA
                refine va_callv (va_runV (As := [.int (iI (48 + v38.toInt))]) (rest := []) ⟨hx, hb, hml, hown, hts⟩ (Met.sV (m_X11_put l dC dI hX aX kX hT hM fX_ready fX_sheet_x29 dX_sheet_x29 nX_sheet_x29 iX_sheetLength_x29 xX_reader xX_solver xX_prover xX_values xX_clauses xX_nets (iI (48 + v38.toInt)) b_fX_sheet_x29 (by first | exact b_nX_sheet_x29 | with_reducible assumption | exact ⟨by omega, by omega⟩ | assumption) (b_iX_sheetLength_x29) (by first | with_reducible assumption | omega | (rw [iI_t (by omega) (by omega)]; omega) | (have h7 : (0 : Int32).toInt = 0 := (by decide); omega)) H.size) H) (cwV 1 hts gwsMX11_putNumber_0 rfl rfl rfl (by decide +kernel) ⟨by first | decide +kernel | (dsimp only [headSpec] <;> omega), by first | decide +kernel | (dsimp only [headSpec] <;> omega)⟩) ⟨fun a U g mk q => by obtain ⟨q0, qh, q1, qP, qK, qD⟩ := q; exact ⟨q0, qh, q1, qP, va_K.moved (u := U) (U := U.calling g mk a) (Vm.Alike.refl U.vm) qK, qD⟩, va_recv hK hP (ci := 11) (q0 := 0) rfl rfl, fun U hU9 hW => ⟨rfl, hU9, by rw [hU9], by rw [hU9]; exact hP, va_K.moved hW.alike hK, hD.weaken (fun _ _ _ _ => trivial)⟩⟩ rfl rfl hl.1 rfl (lv_room (Nat.le_of_ble_eq_true rfl)) dX11_putNumber_53 ⟨by first | decide +kernel | (dsimp only [headSpec] <;> omega), by first | decide +kernel | (dsimp only [headSpec] <;> omega)⟩) hS (fun q _ h => hFc q h) hFc (fun u t9_ H locs ht hvm hw9 hB9 hz1 hk1 hS => ?_)
                revert u hw9 hB9
                refine fz_p4 ?_
                intro fX_sheet_40 dX_sheet_40 nX_sheet_40 iX_sheetLength_40 hw9 hB9
                try dsimp only at hw9 hB9
                revert hw9
                refine fz_a6 ?_
                intro b_fX_sheet_40 b_nX_sheet_40 b_iX_sheetLength_40 b_shl_40 f40_0 f40_1
                have hg1 := hB9.1.2.2.1
                rw [ht] at hg1
                have hg2 := hB9.1.2.2.2
                rw [ht] at hg2
                have hSz := hB9.2
                rw [ht] at hSz
                have hP : va_P (dC, dI) vwCl (WX hX aX kX hT hM fX_ready fX_sheet_40 dX_sheet_40 nX_sheet_40 iX_sheetLength_40 xX_reader xX_solver xX_prover xX_values xX_clauses xX_nets) H := fz_P ht hB9.1.1
                have hD := fz_sd hP (hB9.1.2.1.weaken (fun _ q _ h => hFc q.1 h)) rfl
                have hz9 : H.size ≤ s.heap.size + (nX_sheet_40 / 32 - (nX_sheet / 32)) := by (try dsimp only at hg1); omega
                have hn9 : nS s.heap.size H ≤ (2 * nX_sheet_40 - (2 * nX_sheet)) := by rw [hSz.n hS0]; (try dsimp only at hg2); omega
                refine W.tight (cells2 := (nX_sheet_40 / 32 - (nX_sheet / 32))) (slots2 := (2 * nX_sheet_40 - (2 * nX_sheet))) hz9 hn9 ?_
                clear hz9 hn9 hz0 hn0 hS0 hSz hg1 hg2
                refine lv_iload_n hx hb dX11_putNumber_56 rfl (lv_at hl 1 rfl) ?_
                refine lv_bipush (v := 10) hx hb dX11_putNumber_57 (by decide) ?_
                refine lv_idiv hx hb dX11_putNumber_59 (by decide) ?_
                refine lv_topi (fun v41 hv41 => ?_)
                clear hv41
                refine lv_istore_n hx hb dX11_putNumber_60 rfl hl (by decide) rfl (fun ls (hl : lv_has ls _ ([(3, .int v41), (4, .int l4_x29), (2, .int iX_sheetLength_j5), (0, .ref (hX 0)), (1, .int p1)])) => ?_)
                refine lv_iinc (v := (iI (l4_x29.toInt + 1))) hx hb dX11_putNumber_61 hl (k := 1) rfl (iI_add2 (iI_of _) (by decide : (1 : Int32) = iI 1)) (by decide) rfl (fun ls (hl : lv_has ls _ ([(4, .int (iI (l4_x29.toInt + 1))), (3, .int v41), (2, .int iX_sheetLength_j5), (0, .ref (hX 0)), (1, .int p1)])) => ?_)
                refine lv_goto (tgt := 29) hx hb dX11_putNumber_64 (by decide) ?_
                have hl : lv_has _ _ ([(4, .int (iI (l4_x29.toInt + 1))), (3, .int v41), (2, .int iX_sheetLength_j5), (0, .ref (hX 0)), (1, .int p1)]) := lv_sub hl [0, 1, 2, 3, 4] rfl
                exact ihx29 fX_sheet_40 dX_sheet_40 nX_sheet_40 iX_sheetLength_40 (iI (l4_x29.toInt + 1)) v41 _ _ _ b_fX_sheet_40 (by first | exact b_nX_sheet_40 | with_reducible assumption | exact ⟨by omega, by omega⟩ | assumption) (b_iX_sheetLength_40) (iI_rng (Int.le_trans (by decide) (Int.add_le_add (b_l4_x29.1) (Int.le_refl _))) (by omega) (by decide) (by decide)) (by first | with_reducible assumption | omega | (rw [iI_t (by omega) (by omega)]; omega) | (have h7 : (0 : Int32).toInt = 0 := (by decide); omega)) (show iX_sheetLength.toInt ≤ iX_sheetLength_40.toInt from by omega) (show iX_sheetLength_j5.toInt ≤ iX_sheetLength_40.toInt from by omega) (show nX_sheet ≤ nX_sheet_40 from by omega) (by have e9 : ((iI (l4_x29.toInt + 1))).toInt = (l4_x29.toInt + 1) := (iI_t (Int.le_trans (by decide) (Int.add_le_add (b_l4_x29.1) (Int.le_refl _))) (Int.le_trans (Int.add_le_add (b_l4_x29.2) (Int.le_refl _)) (by decide))); omega) hP hD hS hl
        · intro H locs ls stk
          refine fz_a8 ?_
          intro hj2 hj3 hzn9_2 hst9_3 hP hD hS hl
          have hzj := hzn9_2.1
          have hnj := hzn9_2.2
          clear hzn9_2
          subst hst9_3
          refine W.tight (cells2 := (nX_sheet_x29 / 32 - (nX_sheet / 32))) (slots2 := (2 * nX_sheet_x29 - (2 * nX_sheet))) (tg1 hzj hS.1) (tg2 hnj) ?_
          refine lv_aload_n hx hb dX11_putNumber_67 rfl (lv_at hl 3 rfl) ?_
          refine lv_iload_n hx hb dX11_putNumber_68 rfl (lv_at hl 2 rfl) ?_
          have hFc := allFree hD hS hA
          refine va_callv (va_runV (As := [.int iX_sheetLength_j5]) (rest := []) ⟨hx, hb, hml, hown, hts⟩ (m_X11_turnRound l dC dI hX aX kX hT hM fX_ready fX_sheet_x29 dX_sheet_x29 nX_sheet_x29 iX_sheetLength_x29 xX_reader xX_solver xX_prover xX_values xX_clauses xX_nets iX_sheetLength_j5 b_fX_sheet_x29 (by first | exact b_nX_sheet_x29 | with_reducible assumption | exact ⟨by omega, by omega⟩ | assumption) (b_iX_sheetLength_x29) (by first | with_reducible assumption | omega | (rw [iI_t (by omega) (by omega)]; omega) | (have h7 : (0 : Int32).toInt = 0 := (by decide); omega)) (b_iX_sheetLength_j5) H.size) (cwV 1 hts gwsMX11_putNumber_1 rfl rfl rfl (by decide +kernel) ⟨by first | decide +kernel | (dsimp only [headSpec] <;> omega), by first | decide +kernel | (dsimp only [headSpec] <;> omega)⟩) (fz_pre (va_recv hK hP (ci := 11) (q0 := 0) rfl rfl) hP hK hD) rfl rfl hl.1 rfl (lv_room (Nat.le_of_ble_eq_true rfl)) dX11_putNumber_69 ⟨by first | decide +kernel | (dsimp only [headSpec] <;> omega), by first | decide +kernel | (dsimp only [headSpec] <;> omega)⟩) hS (fun q _ h => hFc q h) hFc (fun fX_sheet_42 t9_ H locs ht hvm hw9 hB9 hz1 hk1 hS => ?_)
          have b_fX_sheet_42 := hw9
          try dsimp only at b_fX_sheet_42
          have hP : va_P (dC, dI) vwCl (WX hX aX kX hT hM fX_ready fX_sheet_42 dX_sheet_x29 nX_sheet_x29 iX_sheetLength_x29 xX_reader xX_solver xX_prover xX_values xX_clauses xX_nets) H := fz_P ht hB9.1
          have hD := fz_sd hP (hB9.2.weaken (fun _ q _ h => hFc q.1 h)) rfl
          refine W.known (fun hz9 hn9 => ?_)
          refine W.widen (k := 3751) (n := 300000) (by omega) (by omega) ?_
          exact W.vret hx hb hr (fun t9_ ht hW => ⟨⟨(fX_sheet_42, dX_sheet_x29, nX_sheet_x29, iX_sheetLength_x29), rfl, ⟨b_fX_sheet_42, (by (try dsimp only); exact (by first | exact b_nX_sheet_x29 | with_reducible assumption | exact ⟨by omega, by omega⟩ | assumption)), b_iX_sheetLength_x29, (by (try dsimp only); exact (by first | with_reducible assumption | omega | (rw [iI_t (by omega) (by omega)]; omega) | (have h7 : (0 : Int32).toInt = 0 := (by decide); omega))), (by (try dsimp only); omega), (by (try dsimp only); first | omega | (rw [iI_t (by omega) (by omega)]; omega))⟩, by rw [ht]; exact hP, hD, by rw [ht]; (try dsimp only); omega, by rw [ht]; (try dsimp only); omega⟩, hS.F ht⟩) hS.2.2 dX11_putNumber_72
end
section
theorem dX11_putRatio_0 : decode cX11_putRatio 0 = .ok (.aload_n 0, 1) := dk_42 (by decide +kernel)
theorem dX11_putRatio_1 : decode cX11_putRatio 1 = .ok (.iload_n 1, 1) := dk_27 (by decide +kernel)
theorem dX11_putRatio_2 : decode cX11_putRatio 2 = .ok (.invokevirtual 283, 3) := dk_182 (by decide +kernel)
theorem dX11_putRatio_5 : decode cX11_putRatio 5 = .ok (.iload_n 2, 1) := dk_28 (by decide +kernel)
theorem dX11_putRatio_6 : decode cX11_putRatio 6 = .ok (.iconst 1, 1) := dk_4 (by decide +kernel)
theorem dX11_putRatio_7 : decode cX11_putRatio 7 = .ok (.if_icmp .eq 14, 3) := dk_159 (by decide +kernel)
theorem dX11_putRatio_10 : decode cX11_putRatio 10 = .ok (.aload_n 0, 1) := dk_42 (by decide +kernel)
theorem dX11_putRatio_11 : decode cX11_putRatio 11 = .ok (.bipush 47, 2) := dk_16 (by decide +kernel)
theorem dX11_putRatio_13 : decode cX11_putRatio 13 = .ok (.invokevirtual 242, 3) := dk_182 (by decide +kernel)
theorem dX11_putRatio_16 : decode cX11_putRatio 16 = .ok (.aload_n 0, 1) := dk_42 (by decide +kernel)
theorem dX11_putRatio_17 : decode cX11_putRatio 17 = .ok (.iload_n 2, 1) := dk_28 (by decide +kernel)
theorem dX11_putRatio_18 : decode cX11_putRatio 18 = .ok (.invokevirtual 283, 3) := dk_182 (by decide +kernel)
theorem dX11_putRatio_21 : decode cX11_putRatio 21 = .ok (.return_, 1) := dk_177 (by decide +kernel)
def wsMX11_putRatio : List Cond := .code yX11_putRatio cX11_putRatio 3 none :: ([] ++ (wsV RX11 283 RX11 yX11_putNumber wsMX11_putNumber) ++ (wsV RX11 242 RX11 yX11_put wsMX11_put))
theorem gwsMX11_putRatio_0 : GoodIn wsMX11_putRatio (wsV RX11 283 RX11 yX11_putNumber wsMX11_putNumber) := goodIn_sub (fun _ h => List.mem_cons_of_mem _ (List.mem_append_left _ (List.mem_append_right _ h))) (gdV (by decide +kernel) gdwsMX11_putNumber)
theorem gwsMX11_putRatio_1 : GoodIn wsMX11_putRatio (wsV RX11 242 RX11 yX11_put wsMX11_put) := goodIn_sub (fun _ h => List.mem_cons_of_mem _ (List.mem_append_right _ h)) (gdV (by decide +kernel) gdwsMX11_put)
theorem gdwsMX11_putRatio : wsMX11_putRatio.all goodWord = true := gdC rfl (gdA (gdA (by decide +kernel : ([] : List Cond).all goodWord = true) (gdV (by decide +kernel) gdwsMX11_putNumber)) (gdV (by decide +kernel) gdwsMX11_put))
set_option maxHeartbeats 4000000 in
set_option maxRecDepth 100000 in
/-- a ratio more -/
theorem m_X11_putRatio (l : Launch) (dC : Nat → ClassId) (dI : Nat → Nat → Nat) (hX : Nat → Nat) (aX : Nat → Nat) (kX : Nat → ClassId) (hT : Nat → Nat) (hM : Nat → Nat) (fX_ready : Nat → Int32) (fX_sheet : Nat → Int32) (dX_sheet : Nat) (nX_sheet : Nat) (iX_sheetLength : Int32) (xX_reader : Value) (xX_solver : Value) (xX_prover : Value) (xX_values : Value) (xX_clauses : Value) (xX_nets : Value) (p1 : Int32) (p2 : Int32) (b_fX_sheet : ∀ q : Nat, (-128) ≤ (fX_sheet q).toInt ∧ (fX_sheet q).toInt ≤ 127) (b_nX_sheet : 64 ≤ nX_sheet ∧ nX_sheet ≤ 60000) (b_iX_sheetLength : 0 ≤ iX_sheetLength.toInt ∧ iX_sheetLength.toInt ≤ 30000) (b_shl : iX_sheetLength.toInt ≤ ((nX_sheet : Nat) : Int)) (sz : Nat) : Met l yX11_putRatio wsMX11_putRatio ({ frames := 4, cells := 5626, slots := 420000, locals := 85 }) (va_Pc [.ref (hX 0), .int p1, .int p2] (fun U => U.heap.size = sz ∧ va_P (dC, dI) vwCl (WX hX aX kX hT hM fX_ready fX_sheet dX_sheet nX_sheet iX_sheetLength xX_reader xX_solver xX_prover xX_values xX_clauses xX_nets) U.heap ∧ va_K (dC, dI) vwCl (tX kX) U ∧ va_D (fun _ => True) (WX hX aX kX hT hM fX_ready fX_sheet dX_sheet nX_sheet iX_sheetLength xX_reader xX_solver xX_prover xX_values xX_clauses xX_nets))) (va_Qv (fun (u : (Nat → Int32) × (Nat) × (Nat) × (Int32)) => (∀ q : Nat, (-128) ≤ ((u.1) q).toInt ∧ ((u.1) q).toInt ≤ 127) ∧ (64 ≤ (u.2.2.1) ∧ (u.2.2.1) ≤ 60000) ∧ (0 ≤ (u.2.2.2).toInt ∧ (u.2.2.2).toInt ≤ 30000) ∧ ((u.2.2.2).toInt ≤ (((u.2.2.1) : Nat) : Int)) ∧ (nX_sheet ≤ (u.2.2.1)) ∧ (iX_sheetLength.toInt ≤ (u.2.2.2).toInt)) (fun (u : (Nat → Int32) × (Nat) × (Nat) × (Int32)) t => va_P (dC, dI) vwCl (WX hX aX kX hT hM fX_ready (u.1) (u.2.1) (u.2.2.1) (u.2.2.2) xX_reader xX_solver xX_prover xX_values xX_clauses xX_nets) t.heap ∧ va_D (va_A (WX hX aX kX hT hM fX_ready fX_sheet dX_sheet nX_sheet iX_sheetLength xX_reader xX_solver xX_prover xX_values xX_clauses xX_nets) sz) (WX hX aX kX hT hM fX_ready (u.1) (u.2.1) (u.2.2.1) (u.2.2.2) xX_reader xX_solver xX_prover xX_values xX_clauses xX_nets) ∧ t.heap.size + (nX_sheet / 32) ≤ sz + ((u.2.2.1) / 32) ∧ nS sz t.heap + (2 * nX_sheet) ≤ (2 * (u.2.2.1))) (va_A (WX hX aX kX hT hM fX_ready fX_sheet dX_sheet nX_sheet iX_sheetLength xX_reader xX_solver xX_prover xX_values xX_clauses xX_nets) sz)) 5626 420000 (va_A (WX hX aX kX hT hM fX_ready fX_sheet dX_sheet nX_sheet iX_sheetLength xX_reader xX_solver xX_prover xX_values xX_clauses xX_nets) sz) := by
  refine Met.ofW (cc := cX11_putRatio) (maxL := 3) (ret := none) (by decide) rfl ?_
  intro p e s m args below meth c s₁ B hml hv
  obtain ⟨rfl, hsz, hP, hK, hD0⟩ := hv
  have hx := B.exec
  have hb := B.bytes
  have hr := B.returns
  have hts := atoms_spec (ws := wsMX11_putRatio) B.pre
  have hown : s.vm.findClass RX11 = some m.cls := findClass_of_methodNamed B.named
  have hlocks := B.notSynchronized
  subst hsz
  have hD := hD0.self (sz := s.heap.size)
  generalize hAe : va_A (WX hX aX kX hT hM fX_ready fX_sheet dX_sheet nX_sheet iX_sheetLength xX_reader xX_solver xX_prover xX_values xX_clauses xX_nets) s.heap.size = A at hD ⊢
  have hA : ∀ q : Nat, s.heap.size ≤ q → A q := fun q h => by rw [← hAe]; exact Or.inr h
  have hS : va_S A s.heap s.heap [] := va_S.rf
  have hl := lv_entry ([.ref (hX 0), .int p1, .int p2]) (n := 3) (Nat.le_of_ble_eq_true rfl)
  rw [lg_entry_eq]
  generalize (lg_sl ([.ref (hX 0), .int p1, .int p2]) ++ List.replicate (3 - (lg_sl ([.ref (hX 0), .int p1, .int p2])).length) Slot.unset).toArray = ls at hl ⊢
  have hl : lv_has ls 3 [(0, .ref (hX 0)), (1, .int p1), (2, .int p2)] := hl
  refine W.widen (k := (nX_sheet / 32 - (nX_sheet / 32))) (n := (2 * nX_sheet - (2 * nX_sheet))) (Nat.zero_le _) (Nat.zero_le _) ?_
  refine lv_aload_n hx hb dX11_putRatio_0 rfl (lv_at hl 0 rfl) ?_
  refine lv_iload_n hx hb dX11_putRatio_1 rfl (lv_at hl 1 rfl) ?_
  refine W.known (fun hz0 hn0 => ?_)
  have hS0 := hS.1
  have hFc := allFree hD hS hA
  refine va_callv (va_runV (As := [.int p1]) (rest := []) ⟨hx, hb, hml, hown, hts⟩ (Met.sV (m_X11_putNumber l dC dI hX aX kX hT hM fX_ready fX_sheet dX_sheet nX_sheet iX_sheetLength xX_reader xX_solver xX_prover xX_values xX_clauses xX_nets p1 b_fX_sheet (by first | exact b_nX_sheet | with_reducible assumption | exact ⟨by omega, by omega⟩ | assumption) (b_iX_sheetLength) (by first | with_reducible assumption | omega | (rw [iI_t (by omega) (by omega)]; omega) | (have h7 : (0 : Int32).toInt = 0 := (by decide); omega)) s.heap.size) s.heap) (cwV 1 hts gwsMX11_putRatio_0 rfl rfl rfl (by decide +kernel) ⟨by first | decide +kernel | (dsimp only [headSpec] <;> omega), by first | decide +kernel | (dsimp only [headSpec] <;> omega)⟩) ⟨fun a U g mk q => by obtain ⟨q0, qh, q1, qP, qK, qD⟩ := q; exact ⟨q0, qh, q1, qP, va_K.moved (u := U) (U := U.calling g mk a) (Vm.Alike.refl U.vm) qK, qD⟩, va_recv hK hP (ci := 11) (q0 := 0) rfl rfl, fun U hU9 hW => ⟨rfl, hU9, by rw [hU9], by rw [hU9]; exact hP, va_K.moved hW.alike hK, hD.weaken (fun _ _ _ _ => trivial)⟩⟩ rfl rfl hl.1 rfl (lv_room (Nat.le_of_ble_eq_true rfl)) dX11_putRatio_2 ⟨by first | decide +kernel | (dsimp only [headSpec] <;> omega), by first | decide +kernel | (dsimp only [headSpec] <;> omega)⟩) hS (fun q _ h => hFc q h) hFc (fun u t9_ H locs ht hvm hw9 hB9 hz1 hk1 hS => ?_)
  revert u hw9 hB9
  refine fz_p4 ?_
  intro fX_sheet_1 dX_sheet_1 nX_sheet_1 iX_sheetLength_1 hw9 hB9
  try dsimp only at hw9 hB9
  revert hw9
  refine fz_a6 ?_
  intro b_fX_sheet_1 b_nX_sheet_1 b_iX_sheetLength_1 b_shl_1 f1_0 f1_1
  have hg1 := hB9.1.2.2.1
  rw [ht] at hg1
  have hg2 := hB9.1.2.2.2
  rw [ht] at hg2
  have hSz := hB9.2
  rw [ht] at hSz
  have hP : va_P (dC, dI) vwCl (WX hX aX kX hT hM fX_ready fX_sheet_1 dX_sheet_1 nX_sheet_1 iX_sheetLength_1 xX_reader xX_solver xX_prover xX_values xX_clauses xX_nets) H := fz_P ht hB9.1.1
  have hD := fz_sd hP (hB9.1.2.1.weaken (fun _ q _ h => hFc q.1 h)) rfl
  have hz9 : H.size ≤ s.heap.size + (nX_sheet_1 / 32 - (nX_sheet / 32)) := by (try dsimp only at hg1); omega
  have hn9 : nS s.heap.size H ≤ (2 * nX_sheet_1 - (2 * nX_sheet)) := by rw [hSz.n hS0]; (try dsimp only at hg2); omega
  refine W.tight (cells2 := (nX_sheet_1 / 32 - (nX_sheet / 32))) (slots2 := (2 * nX_sheet_1 - (2 * nX_sheet))) hz9 hn9 ?_
  clear hz9 hn9 hz0 hn0 hS0 hSz hg1 hg2
  refine lv_iload_n hx hb dX11_putRatio_5 rfl (lv_at hl 2 rfl) ?_
  refine lv_iconst (v := 1) hx hb dX11_putRatio_6 (by decide) ?_
  refine W.known (fun hzk hnk => ?_)
  refine W.widen (k := 1875) (n := 120000) (by omega) (by omega) ?_
  refine W.cut (pc := 21) (fun H locs ls stk => ∃ (fX_sheet_j2 : Nat → Int32) (dX_sheet_j2 : Nat) (nX_sheet_j2 : Nat) (iX_sheetLength_j2 : Int32), (∀ q : Nat, (-128) ≤ (fX_sheet_j2 q).toInt ∧ (fX_sheet_j2 q).toInt ≤ 127) ∧ (64 ≤ nX_sheet_j2 ∧ nX_sheet_j2 ≤ 60000) ∧ (0 ≤ iX_sheetLength_j2.toInt ∧ iX_sheetLength_j2.toInt ≤ 30000) ∧ (iX_sheetLength_j2.toInt ≤ ((nX_sheet_j2 : Nat) : Int)) ∧ (iX_sheetLength.toInt ≤ iX_sheetLength_j2.toInt) ∧ (nX_sheet ≤ nX_sheet_j2) ∧ (H.size + (nX_sheet / 32) ≤ s.heap.size + (nX_sheet_j2 / 32) ∧ nS s.heap.size H + (2 * nX_sheet) ≤ (2 * nX_sheet_j2)) ∧  stk = [] ∧ va_P (dC, dI) vwCl (WX hX aX kX hT hM fX_ready fX_sheet_j2 dX_sheet_j2 nX_sheet_j2 iX_sheetLength_j2 xX_reader xX_solver xX_prover xX_values xX_clauses xX_nets) H ∧ va_D A (WX hX aX kX hT hM fX_ready fX_sheet_j2 dX_sheet_j2 nX_sheet_j2 iX_sheetLength_j2 xX_reader xX_solver xX_prover xX_values xX_clauses xX_nets) ∧ va_S A s.heap H locs ∧ lv_has ls 3 [(0, .ref (hX 0)), (1, .int p1), (2, .int p2)]) (fun join2 => ?_) ?_
  · refine W.tight (cells2 := (nX_sheet_1 / 32 - (nX_sheet / 32))) (slots2 := (2 * nX_sheet_1 - (2 * nX_sheet))) hzk hnk ?_
    refine lv_icmp_eq (tgt := 21) hx hb dX11_putRatio_7 (by decide) (fun c_7 => ?_) (fun c_7 => ?_)
    · have t_7 : p2.toInt = 1 := toI_eq c_7 rfl (by decide : (1 : Int32).toInt = 1)
      have hl : lv_has _ _ ([(0, .ref (hX 0)), (1, .int p1), (2, .int p2)]) := lv_sub hl [0, 1, 2] rfl
      refine W.known (fun hza hna => ?_)
      refine W.widen (k := 1875) (n := 120000) (by omega) (by omega) ?_
      exact join2 _ _ _ _ ⟨fX_sheet_1, dX_sheet_1, nX_sheet_1, iX_sheetLength_1, b_fX_sheet_1, (by first | exact b_nX_sheet_1 | with_reducible assumption | exact ⟨by omega, by omega⟩ | assumption), (b_iX_sheetLength_1), (by first | with_reducible assumption | omega | (rw [iI_t (by omega) (by omega)]; omega) | (have h7 : (0 : Int32).toInt = 0 := (by decide); omega)), (show iX_sheetLength.toInt ≤ iX_sheetLength_1.toInt from by omega), (show nX_sheet ≤ nX_sheet_1 from by omega), ⟨by omega, by omega⟩, rfl, hP, hD, hS, hl⟩
    · have t_7 : ¬ p2.toInt = 1 := toI_neq c_7 rfl (by decide : (1 : Int32).toInt = 1)
      refine lv_aload_n hx hb dX11_putRatio_10 rfl (lv_at hl 0 rfl) ?_
      refine lv_bipush (v := 47) hx hb dX11_putRatio_11 (by decide) ?_
      refine W.known (fun hz0 hn0 => ?_)
      have hS0 := hS.1
      have hFc := allFree hD hS hA
      refine va_callv (va_runV (As := [.int 47]) (rest := []) ⟨hx, hb, hml, hown, hts⟩ (Met.sV (m_X11_put l dC dI hX aX kX hT hM fX_ready fX_sheet_1 dX_sheet_1 nX_sheet_1 iX_sheetLength_1 xX_reader xX_solver xX_prover xX_values xX_clauses xX_nets 47 b_fX_sheet_1 (by first | exact b_nX_sheet_1 | with_reducible assumption | exact ⟨by omega, by omega⟩ | assumption) (b_iX_sheetLength_1) (by first | with_reducible assumption | omega | (rw [iI_t (by omega) (by omega)]; omega) | (have h7 : (0 : Int32).toInt = 0 := (by decide); omega)) H.size) H) (cwV 1 hts gwsMX11_putRatio_1 rfl rfl rfl (by decide +kernel) ⟨by first | decide +kernel | (dsimp only [headSpec] <;> omega), by first | decide +kernel | (dsimp only [headSpec] <;> omega)⟩) ⟨fun a U g mk q => by obtain ⟨q0, qh, q1, qP, qK, qD⟩ := q; exact ⟨q0, qh, q1, qP, va_K.moved (u := U) (U := U.calling g mk a) (Vm.Alike.refl U.vm) qK, qD⟩, va_recv hK hP (ci := 11) (q0 := 0) rfl rfl, fun U hU9 hW => ⟨rfl, hU9, by rw [hU9], by rw [hU9]; exact hP, va_K.moved hW.alike hK, hD.weaken (fun _ _ _ _ => trivial)⟩⟩ rfl rfl hl.1 rfl (lv_room (Nat.le_of_ble_eq_true rfl)) dX11_putRatio_13 ⟨by first | decide +kernel | (dsimp only [headSpec] <;> omega), by first | decide +kernel | (dsimp only [headSpec] <;> omega)⟩) hS (fun q _ h => hFc q h) hFc (fun u t9_ H locs ht hvm hw9 hB9 hz1 hk1 hS => ?_)
      revert u hw9 hB9
      refine fz_p4 ?_
      intro fX_sheet_4 dX_sheet_4 nX_sheet_4 iX_sheetLength_4 hw9 hB9
      try dsimp only at hw9 hB9
      revert hw9
      refine fz_a6 ?_
      intro b_fX_sheet_4 b_nX_sheet_4 b_iX_sheetLength_4 b_shl_4 f4_0 f4_1
      have hg1 := hB9.1.2.2.1
      rw [ht] at hg1
      have hg2 := hB9.1.2.2.2
      rw [ht] at hg2
      have hSz := hB9.2
      rw [ht] at hSz
      have hP : va_P (dC, dI) vwCl (WX hX aX kX hT hM fX_ready fX_sheet_4 dX_sheet_4 nX_sheet_4 iX_sheetLength_4 xX_reader xX_solver xX_prover xX_values xX_clauses xX_nets) H := fz_P ht hB9.1.1
      have hD := fz_sd hP (hB9.1.2.1.weaken (fun _ q _ h => hFc q.1 h)) rfl
      have hz9 : H.size ≤ s.heap.size + (nX_sheet_4 / 32 - (nX_sheet / 32)) := by (try dsimp only at hg1); omega
      have hn9 : nS s.heap.size H ≤ (2 * nX_sheet_4 - (2 * nX_sheet)) := by rw [hSz.n hS0]; (try dsimp only at hg2); omega
      refine W.tight (cells2 := (nX_sheet_4 / 32 - (nX_sheet / 32))) (slots2 := (2 * nX_sheet_4 - (2 * nX_sheet))) hz9 hn9 ?_
      clear hz9 hn9 hz0 hn0 hS0 hSz hg1 hg2
      refine lv_aload_n hx hb dX11_putRatio_16 rfl (lv_at hl 0 rfl) ?_
      refine lv_iload_n hx hb dX11_putRatio_17 rfl (lv_at hl 2 rfl) ?_
      refine W.known (fun hz0 hn0 => ?_)
      have hS0 := hS.1
      have hFc := allFree hD hS hA
      refine va_callv (va_runV (As := [.int p2]) (rest := []) ⟨hx, hb, hml, hown, hts⟩ (Met.sV (m_X11_putNumber l dC dI hX aX kX hT hM fX_ready fX_sheet_4 dX_sheet_4 nX_sheet_4 iX_sheetLength_4 xX_reader xX_solver xX_prover xX_values xX_clauses xX_nets p2 b_fX_sheet_4 (by first | exact b_nX_sheet_4 | with_reducible assumption | exact ⟨by omega, by omega⟩ | assumption) (b_iX_sheetLength_4) (by first | with_reducible assumption | omega | (rw [iI_t (by omega) (by omega)]; omega) | (have h7 : (0 : Int32).toInt = 0 := (by decide); omega)) H.size) H) (cwV 1 hts gwsMX11_putRatio_0 rfl rfl rfl (by decide +kernel) ⟨by first | decide +kernel | (dsimp only [headSpec] <;> omega), by first | decide +kernel | (dsimp only [headSpec] <;> omega)⟩) ⟨fun a U g mk q => by obtain ⟨q0, qh, q1, qP, qK, qD⟩ := q; exact ⟨q0, qh, q1, qP, va_K.moved (u := U) (U := U.calling g mk a) (Vm.Alike.refl U.vm) qK, qD⟩, va_recv hK hP (ci := 11) (q0 := 0) rfl rfl, fun U hU9 hW => ⟨rfl, hU9, by rw [hU9], by rw [hU9]; exact hP, va_K.moved hW.alike hK, hD.weaken (fun _ _ _ _ => trivial)⟩⟩ rfl rfl hl.1 rfl (lv_room (Nat.le_of_ble_eq_true rfl)) dX11_putRatio_18 ⟨by first | decide +kernel | (dsimp only [headSpec] <;> omega), by first | decide +kernel | (dsimp only [headSpec] <;> omega)⟩) hS (fun q _ h => hFc q h) hFc (fun u t9_ H locs ht hvm hw9 hB9 hz1 hk1 hS => ?_)
      revert u hw9 hB9
      refine fz_p4 ?_
      intro fX_sheet_5 dX_sheet_5 nX_sheet_5 iX_sheetLength_5 hw9 hB9
      try dsimp only at hw9 hB9
      revert hw9
      refine fz_a6 ?_
      intro b_fX_sheet_5 b_nX_sheet_5 b_iX_sheetLength_5 b_shl_5 f5_0 f5_1
      have hg1 := hB9.1.2.2.1
      rw [ht] at hg1
      have hg2 := hB9.1.2.2.2
      rw [ht] at hg2
      have hSz := hB9.2
      rw [ht] at hSz
      have hP : va_P (dC, dI) vwCl (WX hX aX kX hT hM fX_ready fX_sheet_5 dX_sheet_5 nX_sheet_5 iX_sheetLength_5 xX_reader xX_solver xX_prover xX_values xX_clauses xX_nets) H := fz_P ht hB9.1.1
      have hD := fz_sd hP (hB9.1.2.1.weaken (fun _ q _ h => hFc q.1 h)) rfl
      have hz9 : H.size ≤ s.heap.size + (nX_sheet_5 / 32 - (nX_sheet / 32)) := by (try dsimp only at hg1); omega
      have hn9 : nS s.heap.size H ≤ (2 * nX_sheet_5 - (2 * nX_sheet)) := by rw [hSz.n hS0]; (try dsimp only at hg2); omega
      refine W.tight (cells2 := (nX_sheet_5 / 32 - (nX_sheet / 32))) (slots2 := (2 * nX_sheet_5 - (2 * nX_sheet))) hz9 hn9 ?_
      clear hz9 hn9 hz0 hn0 hS0 hSz hg1 hg2
      have hl : lv_has _ _ ([(0, .ref (hX 0)), (1, .int p1), (2, .int p2)]) := lv_sub hl [0, 1, 2] rfl
      refine W.known (fun hza hna => ?_)
      refine W.widen (k := 1875) (n := 120000) (by omega) (by omega) ?_
      exact join2 _ _ _ _ ⟨fX_sheet_5, dX_sheet_5, nX_sheet_5, iX_sheetLength_5, b_fX_sheet_5, (by first | exact b_nX_sheet_5 | with_reducible assumption | exact ⟨by omega, by omega⟩ | assumption), (b_iX_sheetLength_5), (by first | with_reducible assumption | omega | (rw [iI_t (by omega) (by omega)]; omega) | (have h7 : (0 : Int32).toInt = 0 := (by decide); omega)), (show iX_sheetLength.toInt ≤ iX_sheetLength_5.toInt from by omega), (show nX_sheet ≤ nX_sheet_5 from by omega), ⟨by omega, by omega⟩, rfl, hP, hD, hS, hl⟩
  · intro H locs ls stk
    refine fz_e4 ?_
    intro fX_sheet_j2 dX_sheet_j2 nX_sheet_j2 iX_sheetLength_j2
    refine fz_a12 ?_
    intro b_fX_sheet_j2 b_nX_sheet_j2 b_iX_sheetLength_j2 b_shl_j2 hjx hgm0_j2 hzn9_6 hst9_7 hP hD hS hl
    have hzj := hzn9_6.1
    have hnj := hzn9_6.2
    clear hzn9_6
    subst hst9_7
    refine W.tight (cells2 := (nX_sheet_j2 / 32 - (nX_sheet / 32))) (slots2 := (2 * nX_sheet_j2 - (2 * nX_sheet))) (tg1 hzj hS.1) (tg2 hnj) ?_
    refine W.known (fun hz9 hn9 => ?_)
    refine W.widen (k := 5626) (n := 420000) (by omega) (by omega) ?_
    exact W.vret hx hb hr (fun t9_ ht hW => ⟨⟨(fX_sheet_j2, dX_sheet_j2, nX_sheet_j2, iX_sheetLength_j2), rfl, ⟨b_fX_sheet_j2, (by (try dsimp only); exact (by first | exact b_nX_sheet_j2 | with_reducible assumption | exact ⟨by omega, by omega⟩ | assumption)), b_iX_sheetLength_j2, (by (try dsimp only); exact (by first | with_reducible assumption | omega | (rw [iI_t (by omega) (by omega)]; omega) | (have h7 : (0 : Int32).toInt = 0 := (by decide); omega))), (by (try dsimp only); omega), (by (try dsimp only); first | omega | (rw [iI_t (by omega) (by omega)]; omega))⟩, by rw [ht]; exact hP, hD, by rw [ht]; (try dsimp only); omega, by rw [ht]; (try dsimp only); omega⟩, hS.F ht⟩) hS.2.2 dX11_putRatio_21
theorem dX11_putTimes_0 : decode cX11_putTimes 0 = .ok (.iload_n 1, 1) := dk_27 (by decide +kernel)
theorem dX11_putTimes_1 : decode cX11_putTimes 1 = .ok (.ifCond .ge 13, 3) := dk_156 (by decide +kernel)
theorem dX11_putTimes_4 : decode cX11_putTimes 4 = .ok (.aload_n 0, 1) := dk_42 (by decide +kernel)
theorem dX11_putTimes_5 : decode cX11_putTimes 5 = .ok (.ldc_w 315, 3) := dk_19 (by decide +kernel)
theorem dX11_putTimes_8 : decode cX11_putTimes 8 = .ok (.invokevirtual 279, 3) := dk_182 (by decide +kernel)
theorem dX11_putTimes_11 : decode cX11_putTimes 11 = .ok (.goto 15, 3) := dk_167 (by decide +kernel)
theorem dX11_putTimes_14 : decode cX11_putTimes 14 = .ok (.iload 4, 2) := dk_21 (by decide +kernel)
theorem dX11_putTimes_16 : decode cX11_putTimes 16 = .ok (.ifCond .ne 10, 3) := dk_154 (by decide +kernel)
theorem dX11_putTimes_19 : decode cX11_putTimes 19 = .ok (.aload_n 0, 1) := dk_42 (by decide +kernel)
theorem dX11_putTimes_20 : decode cX11_putTimes 20 = .ok (.ldc_w 317, 3) := dk_19 (by decide +kernel)
theorem dX11_putTimes_23 : decode cX11_putTimes 23 = .ok (.invokevirtual 279, 3) := dk_182 (by decide +kernel)
theorem dX11_putTimes_26 : decode cX11_putTimes 26 = .ok (.iload_n 1, 1) := dk_27 (by decide +kernel)
theorem dX11_putTimes_27 : decode cX11_putTimes 27 = .ok (.ifCond .ge 8, 3) := dk_156 (by decide +kernel)
theorem dX11_putTimes_30 : decode cX11_putTimes 30 = .ok (.iload_n 1, 1) := dk_27 (by decide +kernel)
theorem dX11_putTimes_31 : decode cX11_putTimes 31 = .ok (.ineg, 1) := dk_116 (by decide +kernel)
theorem dX11_putTimes_32 : decode cX11_putTimes 32 = .ok (.goto 4, 3) := dk_167 (by decide +kernel)
theorem dX11_putTimes_35 : decode cX11_putTimes 35 = .ok (.iload_n 1, 1) := dk_27 (by decide +kernel)
theorem dX11_putTimes_36 : decode cX11_putTimes 36 = .ok (.istore 5, 2) := dk_54 (by decide +kernel)
theorem dX11_putTimes_38 : decode cX11_putTimes 38 = .ok (.iload 5, 2) := dk_21 (by decide +kernel)
theorem dX11_putTimes_40 : decode cX11_putTimes 40 = .ok (.iconst 1, 1) := dk_4 (by decide +kernel)
theorem dX11_putTimes_41 : decode cX11_putTimes 41 = .ok (.if_icmp .ne 8, 3) := dk_160 (by decide +kernel)
theorem dX11_putTimes_44 : decode cX11_putTimes 44 = .ok (.iload_n 2, 1) := dk_28 (by decide +kernel)
theorem dX11_putTimes_45 : decode cX11_putTimes 45 = .ok (.iconst 1, 1) := dk_4 (by decide +kernel)
theorem dX11_putTimes_46 : decode cX11_putTimes 46 = .ok (.if_icmp .eq 23, 3) := dk_159 (by decide +kernel)
theorem dX11_putTimes_49 : decode cX11_putTimes 49 = .ok (.aload_n 0, 1) := dk_42 (by decide +kernel)
theorem dX11_putTimes_50 : decode cX11_putTimes 50 = .ok (.bipush 32, 2) := dk_16 (by decide +kernel)
theorem dX11_putTimes_52 : decode cX11_putTimes 52 = .ok (.invokevirtual 242, 3) := dk_182 (by decide +kernel)
theorem dX11_putTimes_55 : decode cX11_putTimes 55 = .ok (.aload_n 0, 1) := dk_42 (by decide +kernel)
theorem dX11_putTimes_56 : decode cX11_putTimes 56 = .ok (.iload 5, 2) := dk_21 (by decide +kernel)
theorem dX11_putTimes_58 : decode cX11_putTimes 58 = .ok (.iload_n 2, 1) := dk_28 (by decide +kernel)
theorem dX11_putTimes_59 : decode cX11_putTimes 59 = .ok (.invokevirtual 319, 3) := dk_182 (by decide +kernel)
theorem dX11_putTimes_62 : decode cX11_putTimes 62 = .ok (.aload_n 0, 1) := dk_42 (by decide +kernel)
theorem dX11_putTimes_63 : decode cX11_putTimes 63 = .ok (.ldc_w 322, 3) := dk_19 (by decide +kernel)
theorem dX11_putTimes_66 : decode cX11_putTimes 66 = .ok (.invokevirtual 279, 3) := dk_182 (by decide +kernel)
theorem dX11_putTimes_69 : decode cX11_putTimes 69 = .ok (.aload_n 0, 1) := dk_42 (by decide +kernel)
theorem dX11_putTimes_70 : decode cX11_putTimes 70 = .ok (.ldc_w 324, 3) := dk_19 (by decide +kernel)
theorem dX11_putTimes_73 : decode cX11_putTimes 73 = .ok (.invokevirtual 279, 3) := dk_182 (by decide +kernel)
theorem dX11_putTimes_76 : decode cX11_putTimes 76 = .ok (.aload_n 0, 1) := dk_42 (by decide +kernel)
theorem dX11_putTimes_77 : decode cX11_putTimes 77 = .ok (.iload_n 3, 1) := dk_29 (by decide +kernel)
theorem dX11_putTimes_78 : decode cX11_putTimes 78 = .ok (.invokevirtual 283, 3) := dk_182 (by decide +kernel)
theorem dX11_putTimes_81 : decode cX11_putTimes 81 = .ok (.return_, 1) := dk_177 (by decide +kernel)
def wsMX11_putTimes : List Cond := .code yX11_putTimes cX11_putTimes 6 none :: ([] ++ (wsV RX11 279 RX11 yX11_putText wsMX11_putText) ++ (wsV RX11 242 RX11 yX11_put wsMX11_put) ++ (wsV RX11 319 RX11 yX11_putRatio wsMX11_putRatio) ++ (wsV RX11 283 RX11 yX11_putNumber wsMX11_putNumber))
theorem gwsMX11_putTimes_0 : GoodIn wsMX11_putTimes (wsV RX11 279 RX11 yX11_putText wsMX11_putText) := goodIn_sub (fun _ h => List.mem_cons_of_mem _ (List.mem_append_left _ (List.mem_append_left _ (List.mem_append_left _ (List.mem_append_right _ h))))) (gdV (by decide +kernel) gdwsMX11_putText)
theorem gwsMX11_putTimes_1 : GoodIn wsMX11_putTimes (wsV RX11 242 RX11 yX11_put wsMX11_put) := goodIn_sub (fun _ h => List.mem_cons_of_mem _ (List.mem_append_left _ (List.mem_append_left _ (List.mem_append_right _ h)))) (gdV (by decide +kernel) gdwsMX11_put)
theorem gwsMX11_putTimes_2 : GoodIn wsMX11_putTimes (wsV RX11 319 RX11 yX11_putRatio wsMX11_putRatio) := goodIn_sub (fun _ h => List.mem_cons_of_mem _ (List.mem_append_left _ (List.mem_append_right _ h))) (gdV (by decide +kernel) gdwsMX11_putRatio)
theorem gwsMX11_putTimes_3 : GoodIn wsMX11_putTimes (wsV RX11 283 RX11 yX11_putNumber wsMX11_putNumber) := goodIn_sub (fun _ h => List.mem_cons_of_mem _ (List.mem_append_right _ h)) (gdV (by decide +kernel) gdwsMX11_putNumber)
theorem gdwsMX11_putTimes : wsMX11_putTimes.all goodWord = true := gdC rfl (gdA (gdA (gdA (gdA (by decide +kernel : ([] : List Cond).all goodWord = true) (gdV (by decide +kernel) gdwsMX11_putText)) (gdV (by decide +kernel) gdwsMX11_put)) (gdV (by decide +kernel) gdwsMX11_putRatio)) (gdV (by decide +kernel) gdwsMX11_putNumber))
set_option maxHeartbeats 4000000 in
set_option maxRecDepth 100000 in
/-- a number times a variable -/
theorem m_X11_putTimes (l : Launch) (hst : l.stackTraces = false) (dC : Nat → ClassId) (dI : Nat → Nat → Nat) (hX : Nat → Nat) (aX : Nat → Nat) (kX : Nat → ClassId) (hT : Nat → Nat) (hM : Nat → Nat) (fX_ready : Nat → Int32) (fX_sheet : Nat → Int32) (dX_sheet : Nat) (nX_sheet : Nat) (iX_sheetLength : Int32) (xX_reader : Value) (xX_solver : Value) (xX_prover : Value) (xX_values : Value) (xX_clauses : Value) (xX_nets : Value) (p1 : Int32) (p2 : Int32) (p3 : Int32) (p4 : Int32) (b_fX_sheet : ∀ q : Nat, (-128) ≤ (fX_sheet q).toInt ∧ (fX_sheet q).toInt ≤ 127) (b_nX_sheet : 64 ≤ nX_sheet ∧ nX_sheet ≤ 60000) (b_iX_sheetLength : 0 ≤ iX_sheetLength.toInt ∧ iX_sheetLength.toInt ≤ 30000) (b_shl : iX_sheetLength.toInt ≤ ((nX_sheet : Nat) : Int)) (sz : Nat) : Met l yX11_putTimes wsMX11_putTimes ({ frames := 5, cells := 7501, slots := 540000, locals := 107 }) (va_Pc [.ref (hX 0), .int p1, .int p2, .int p3, .int p4] (fun U => U.heap.size = sz ∧ va_P (dC, dI) vwCl (WX hX aX kX hT hM fX_ready fX_sheet dX_sheet nX_sheet iX_sheetLength xX_reader xX_solver xX_prover xX_values xX_clauses xX_nets) U.heap ∧ va_K (dC, dI) vwCl (tX kX) U ∧ va_D (fun _ => True) (WX hX aX kX hT hM fX_ready fX_sheet dX_sheet nX_sheet iX_sheetLength xX_reader xX_solver xX_prover xX_values xX_clauses xX_nets) ∧ CE (va_A (WX hX aX kX hT hM fX_ready fX_sheet dX_sheet nX_sheet iX_sheetLength xX_reader xX_solver xX_prover xX_values xX_clauses xX_nets) sz) U U.heap)) (va_Qv (fun (u : (Nat → Int32) × (Nat) × (Nat) × (Int32)) => (∀ q : Nat, (-128) ≤ ((u.1) q).toInt ∧ ((u.1) q).toInt ≤ 127) ∧ (64 ≤ (u.2.2.1) ∧ (u.2.2.1) ≤ 60000) ∧ (0 ≤ (u.2.2.2).toInt ∧ (u.2.2.2).toInt ≤ 30000) ∧ ((u.2.2.2).toInt ≤ (((u.2.2.1) : Nat) : Int)) ∧ (nX_sheet ≤ (u.2.2.1)) ∧ (iX_sheetLength.toInt ≤ (u.2.2.2).toInt)) (fun (u : (Nat → Int32) × (Nat) × (Nat) × (Int32)) t => va_P (dC, dI) vwCl (WX hX aX kX hT hM fX_ready (u.1) (u.2.1) (u.2.2.1) (u.2.2.2) xX_reader xX_solver xX_prover xX_values xX_clauses xX_nets) t.heap ∧ va_D (va_A (WX hX aX kX hT hM fX_ready fX_sheet dX_sheet nX_sheet iX_sheetLength xX_reader xX_solver xX_prover xX_values xX_clauses xX_nets) sz) (WX hX aX kX hT hM fX_ready (u.1) (u.2.1) (u.2.2.1) (u.2.2.2) xX_reader xX_solver xX_prover xX_values xX_clauses xX_nets) ∧ t.heap.size + (nX_sheet / 32) ≤ sz + ((u.2.2.1) / 32) ∧ nS sz t.heap + (2 * nX_sheet) ≤ (2 * (u.2.2.1))) (va_A (WX hX aX kX hT hM fX_ready fX_sheet dX_sheet nX_sheet iX_sheetLength xX_reader xX_solver xX_prover xX_values xX_clauses xX_nets) sz)) 7501 540000 (va_A (WX hX aX kX hT hM fX_ready fX_sheet dX_sheet nX_sheet iX_sheetLength xX_reader xX_solver xX_prover xX_values xX_clauses xX_nets) sz) := by
  refine Met.ofW (cc := cX11_putTimes) (maxL := 6) (ret := none) (by decide) rfl ?_
  intro p e s m args below meth c s₁ B hml hv
  obtain ⟨rfl, hsz, hP, hK, hD0, hE⟩ := hv
  have hx := B.exec
  have hb := B.bytes
  have hr := B.returns
  have hts := atoms_spec (ws := wsMX11_putTimes) B.pre
  have hown : s.vm.findClass RX11 = some m.cls := findClass_of_methodNamed B.named
  have hlocks := B.notSynchronized
  subst hsz
  have hD := hD0.self (sz := s.heap.size)
  generalize hAe : va_A (WX hX aX kX hT hM fX_ready fX_sheet dX_sheet nX_sheet iX_sheetLength xX_reader xX_solver xX_prover xX_values xX_clauses xX_nets) s.heap.size = A at hD hE ⊢
  have hA : ∀ q : Nat, s.heap.size ≤ q → A q := fun q h => by rw [← hAe]; exact Or.inr h
  have hS : va_S A s.heap s.heap [] := va_S.rf
  have hl := lv_entry ([.ref (hX 0), .int p1, .int p2, .int p3, .int p4]) (n := 6) (Nat.le_of_ble_eq_true rfl)
  rw [lg_entry_eq]
  generalize (lg_sl ([.ref (hX 0), .int p1, .int p2, .int p3, .int p4]) ++ List.replicate (6 - (lg_sl ([.ref (hX 0), .int p1, .int p2, .int p3, .int p4])).length) Slot.unset).toArray = ls at hl ⊢
  have hl : lv_has ls 6 [(0, .ref (hX 0)), (1, .int p1), (2, .int p2), (3, .int p3), (4, .int p4)] := hl
  refine W.widen (k := (nX_sheet / 32 - (nX_sheet / 32))) (n := (2 * nX_sheet - (2 * nX_sheet))) (Nat.zero_le _) (Nat.zero_le _) ?_
  refine lv_iload_n hx hb dX11_putTimes_0 rfl (lv_at hl 1 rfl) ?_
  refine W.known (fun hzk hnk => ?_)
  refine W.widen (k := 1875) (n := 120000) (by omega) (by omega) ?_
  refine W.cut (pc := 26) (fun H locs ls stk => ∃ (fX_sheet_j4 : Nat → Int32) (dX_sheet_j4 : Nat) (nX_sheet_j4 : Nat) (iX_sheetLength_j4 : Int32), (∀ q : Nat, (-128) ≤ (fX_sheet_j4 q).toInt ∧ (fX_sheet_j4 q).toInt ≤ 127) ∧ (64 ≤ nX_sheet_j4 ∧ nX_sheet_j4 ≤ 60000) ∧ (0 ≤ iX_sheetLength_j4.toInt ∧ iX_sheetLength_j4.toInt ≤ 30000) ∧ (iX_sheetLength_j4.toInt ≤ ((nX_sheet_j4 : Nat) : Int)) ∧ (iX_sheetLength.toInt ≤ iX_sheetLength_j4.toInt) ∧ (nX_sheet ≤ nX_sheet_j4) ∧ (H.size + (nX_sheet / 32) ≤ s.heap.size + (nX_sheet_j4 / 32) ∧ nS s.heap.size H + (2 * nX_sheet) ≤ (2 * nX_sheet_j4)) ∧  stk = [] ∧ va_P (dC, dI) vwCl (WX hX aX kX hT hM fX_ready fX_sheet_j4 dX_sheet_j4 nX_sheet_j4 iX_sheetLength_j4 xX_reader xX_solver xX_prover xX_values xX_clauses xX_nets) H ∧ va_D A (WX hX aX kX hT hM fX_ready fX_sheet_j4 dX_sheet_j4 nX_sheet_j4 iX_sheetLength_j4 xX_reader xX_solver xX_prover xX_values xX_clauses xX_nets) ∧ va_S A s.heap H locs ∧ lv_has ls 6 [(0, .ref (hX 0)), (1, .int p1), (2, .int p2), (3, .int p3), (4, .int p4)]) (fun join4 => ?_) ?_
  · refine W.tight (cells2 := (nX_sheet / 32 - (nX_sheet / 32))) (slots2 := (2 * nX_sheet - (2 * nX_sheet))) hzk hnk ?_
    refine lv_if_ge (tgt := 14) hx hb dX11_putTimes_1 (by decide) (fun c_1 => ?_) (fun c_1 => ?_)
    · have t_1 : p1.toInt ≥ 0 := toI_ge c_1 rfl (by decide : (0 : Int32).toInt = 0)
      refine lv_iload hx hb dX11_putTimes_14 (lv_at hl 4 rfl) ?_
      refine lv_if_ne (tgt := 26) hx hb dX11_putTimes_16 (by decide) (fun c_16 => ?_) (fun c_16 => ?_)
      · have t_16 : p4.toInt ≠ 0 := toI_ne c_16 rfl (by decide : (0 : Int32).toInt = 0)
        have hl : lv_has _ _ ([(0, .ref (hX 0)), (1, .int p1), (2, .int p2), (3, .int p3), (4, .int p4)]) := lv_sub hl [0, 1, 2, 3, 4] rfl
        refine W.known (fun hza hna => ?_)
        refine W.widen (k := 1875) (n := 120000) (by omega) (by omega) ?_
        exact join4 _ _ _ _ ⟨fX_sheet, dX_sheet, nX_sheet, iX_sheetLength, b_fX_sheet, (by first | exact b_nX_sheet | with_reducible assumption | exact ⟨by omega, by omega⟩ | assumption), (b_iX_sheetLength), (by first | with_reducible assumption | omega | (rw [iI_t (by omega) (by omega)]; omega) | (have h7 : (0 : Int32).toInt = 0 := (by decide); omega)), (show iX_sheetLength.toInt ≤ iX_sheetLength.toInt from by omega), (show nX_sheet ≤ nX_sheet from by omega), ⟨by omega, by omega⟩, rfl, hP, hD, hS, hl⟩
      · have t_16 : p4.toInt = 0 := toI_nne c_16 rfl (by decide : (0 : Int32).toInt = 0)
        refine lv_aload_n hx hb dX11_putTimes_19 rfl (lv_at hl 0 rfl) ?_
        obtain ⟨qS317, hR317, hSS317⟩ := hE.2.2.2 13 _ rfl
        refine lv_ldcwS hx hb hown hR317 dX11_putTimes_20 ?_
        refine W.known (fun hz0 hn0 => ?_)
        have hS0 := hS.1
        have hFc := allFree hD hS hA
        refine va_callv (va_runV (As := [.ref qS317]) (rest := []) ⟨hx, hb, hml, hown, hts⟩ (Met.sV (m_X11_putText l dC dI hX aX kX hT hM fX_ready fX_sheet dX_sheet nX_sheet iX_sheetLength xX_reader xX_solver xX_prover xX_values xX_clauses xX_nets qS317 2 (fun j => ([32, 43] : List Int32).getD j 0) b_fX_sheet (by first | exact b_nX_sheet | with_reducible assumption | exact ⟨by omega, by omega⟩ | assumption) (b_iX_sheetLength) (by first | with_reducible assumption | omega | (rw [iI_t (by omega) (by omega)]; omega) | (have h7 : (0 : Int32).toInt = 0 := (by decide); omega)) (by decide) s.heap.size) s.heap) (cwV 1 hts gwsMX11_putTimes_0 rfl rfl rfl (by decide +kernel) ⟨by first | decide +kernel | (dsimp only [headSpec] <;> omega), by first | decide +kernel | (dsimp only [headSpec] <;> omega)⟩) ⟨fun a U g mk q => by obtain ⟨q0, qh, q1, qP, qK, qD, qE⟩ := q; exact ⟨q0, qh, q1, qP, va_K.moved (u := U) (U := U.calling g mk a) (Vm.Alike.refl U.vm) qK, qD, qE.same rfl⟩, va_recv hK hP (ci := 11) (q0 := 0) rfl rfl, fun U hU9 hW => ⟨rfl, hU9, by rw [hU9], by rw [hU9]; exact hP, va_K.moved hW.alike hK, hD.weaken (fun _ _ _ _ => trivial), by rw [hU9]; exact (((hSS317 : (StrE qS317 2 (fun j => ([32, 43] : List Int32).getD j 0)) A s s.heap).kept hS.2.1).narrow (fun q h => hFc q h)).warm hW⟩⟩ rfl rfl hl.1 rfl (lv_room (Nat.le_of_ble_eq_true rfl)) dX11_putTimes_23 ⟨by first | decide +kernel | (dsimp only [headSpec] <;> omega), by first | decide +kernel | (dsimp only [headSpec] <;> omega)⟩) hS (fun q _ h => hFc q h) hFc (fun u t9_ H locs ht hvm hw9 hB9 hz1 hk1 hS => ?_)
        revert u hw9 hB9
        refine fz_p4 ?_
        intro fX_sheet_3 dX_sheet_3 nX_sheet_3 iX_sheetLength_3 hw9 hB9
        try dsimp only at hw9 hB9
        revert hw9
        refine fz_a6 ?_
        intro b_fX_sheet_3 b_nX_sheet_3 b_iX_sheetLength_3 b_shl_3 f3_0 f3_1
        have hg1 := hB9.1.2.2.1
        rw [ht] at hg1
        have hg2 := hB9.1.2.2.2
        rw [ht] at hg2
        have hSz := hB9.2
        rw [ht] at hSz
        have hP : va_P (dC, dI) vwCl (WX hX aX kX hT hM fX_ready fX_sheet_3 dX_sheet_3 nX_sheet_3 iX_sheetLength_3 xX_reader xX_solver xX_prover xX_values xX_clauses xX_nets) H := fz_P ht hB9.1.1
        have hD := fz_sd hP (hB9.1.2.1.weaken (fun _ q _ h => hFc q.1 h)) rfl
        have hz9 : H.size ≤ s.heap.size + (nX_sheet_3 / 32 - (nX_sheet / 32)) := by (try dsimp only at hg1); omega
        have hn9 : nS s.heap.size H ≤ (2 * nX_sheet_3 - (2 * nX_sheet)) := by rw [hSz.n hS0]; (try dsimp only at hg2); omega
        refine W.tight (cells2 := (nX_sheet_3 / 32 - (nX_sheet / 32))) (slots2 := (2 * nX_sheet_3 - (2 * nX_sheet))) hz9 hn9 ?_
        clear hz9 hn9 hz0 hn0 hS0 hSz hg1 hg2
        have hl : lv_has _ _ ([(0, .ref (hX 0)), (1, .int p1), (2, .int p2), (3, .int p3), (4, .int p4)]) := lv_sub hl [0, 1, 2, 3, 4] rfl
        refine W.known (fun hza hna => ?_)
        refine W.widen (k := 1875) (n := 120000) (by omega) (by omega) ?_
        exact join4 _ _ _ _ ⟨fX_sheet_3, dX_sheet_3, nX_sheet_3, iX_sheetLength_3, b_fX_sheet_3, (by first | exact b_nX_sheet_3 | with_reducible assumption | exact ⟨by omega, by omega⟩ | assumption), (b_iX_sheetLength_3), (by first | with_reducible assumption | omega | (rw [iI_t (by omega) (by omega)]; omega) | (have h7 : (0 : Int32).toInt = 0 := (by decide); omega)), (show iX_sheetLength.toInt ≤ iX_sheetLength_3.toInt from by omega), (show nX_sheet ≤ nX_sheet_3 from by omega), ⟨by omega, by omega⟩, rfl, hP, hD, hS, hl⟩
    · have t_1 : ¬ p1.toInt ≥ 0 := toI_nge c_1 rfl (by decide : (0 : Int32).toInt = 0)
      refine lv_aload_n hx hb dX11_putTimes_4 rfl (lv_at hl 0 rfl) ?_
      obtain ⟨qS315, hR315, hSS315⟩ := hE.2.2.2 12 _ rfl
      refine lv_ldcwS hx hb hown hR315 dX11_putTimes_5 ?_
      refine W.known (fun hz0 hn0 => ?_)
      have hS0 := hS.1
      have hFc := allFree hD hS hA
      refine va_callv (va_runV (As := [.ref qS315]) (rest := []) ⟨hx, hb, hml, hown, hts⟩ (Met.sV (m_X11_putText l dC dI hX aX kX hT hM fX_ready fX_sheet dX_sheet nX_sheet iX_sheetLength xX_reader xX_solver xX_prover xX_values xX_clauses xX_nets qS315 2 (fun j => ([32, 45] : List Int32).getD j 0) b_fX_sheet (by first | exact b_nX_sheet | with_reducible assumption | exact ⟨by omega, by omega⟩ | assumption) (b_iX_sheetLength) (by first | with_reducible assumption | omega | (rw [iI_t (by omega) (by omega)]; omega) | (have h7 : (0 : Int32).toInt = 0 := (by decide); omega)) (by decide) s.heap.size) s.heap) (cwV 1 hts gwsMX11_putTimes_0 rfl rfl rfl (by decide +kernel) ⟨by first | decide +kernel | (dsimp only [headSpec] <;> omega), by first | decide +kernel | (dsimp only [headSpec] <;> omega)⟩) ⟨fun a U g mk q => by obtain ⟨q0, qh, q1, qP, qK, qD, qE⟩ := q; exact ⟨q0, qh, q1, qP, va_K.moved (u := U) (U := U.calling g mk a) (Vm.Alike.refl U.vm) qK, qD, qE.same rfl⟩, va_recv hK hP (ci := 11) (q0 := 0) rfl rfl, fun U hU9 hW => ⟨rfl, hU9, by rw [hU9], by rw [hU9]; exact hP, va_K.moved hW.alike hK, hD.weaken (fun _ _ _ _ => trivial), by rw [hU9]; exact (((hSS315 : (StrE qS315 2 (fun j => ([32, 45] : List Int32).getD j 0)) A s s.heap).kept hS.2.1).narrow (fun q h => hFc q h)).warm hW⟩⟩ rfl rfl hl.1 rfl (lv_room (Nat.le_of_ble_eq_true rfl)) dX11_putTimes_8 ⟨by first | decide +kernel | (dsimp only [headSpec] <;> omega), by first | decide +kernel | (dsimp only [headSpec] <;> omega)⟩) hS (fun q _ h => hFc q h) hFc (fun u t9_ H locs ht hvm hw9 hB9 hz1 hk1 hS => ?_)
      revert u hw9 hB9
      refine fz_p4 ?_
      intro fX_sheet_4 dX_sheet_4 nX_sheet_4 iX_sheetLength_4 hw9 hB9
      try dsimp only at hw9 hB9
      revert hw9
      refine fz_a6 ?_
      intro b_fX_sheet_4 b_nX_sheet_4 b_iX_sheetLength_4 b_shl_4 f4_0 f4_1
      have hg1 := hB9.1.2.2.1
      rw [ht] at hg1
      have hg2 := hB9.1.2.2.2
      rw [ht] at hg2
      have hSz := hB9.2
      rw [ht] at hSz
      have hP : va_P (dC, dI) vwCl (WX hX aX kX hT hM fX_ready fX_sheet_4 dX_sheet_4 nX_sheet_4 iX_sheetLength_4 xX_reader xX_solver xX_prover xX_values xX_clauses xX_nets) H := fz_P ht hB9.1.1
      have hD := fz_sd hP (hB9.1.2.1.weaken (fun _ q _ h => hFc q.1 h)) rfl
      have hz9 : H.size ≤ s.heap.size + (nX_sheet_4 / 32 - (nX_sheet / 32)) := by (try dsimp only at hg1); omega
      have hn9 : nS s.heap.size H ≤ (2 * nX_sheet_4 - (2 * nX_sheet)) := by rw [hSz.n hS0]; (try dsimp only at hg2); omega
      refine W.tight (cells2 := (nX_sheet_4 / 32 - (nX_sheet / 32))) (slots2 := (2 * nX_sheet_4 - (2 * nX_sheet))) hz9 hn9 ?_
      clear hz9 hn9 hz0 hn0 hS0 hSz hg1 hg2
      refine lv_goto (tgt := 26) hx hb dX11_putTimes_11 (by decide) ?_
      have hl : lv_has _ _ ([(0, .ref (hX 0)), (1, .int p1), (2, .int p2), (3, .int p3), (4, .int p4)]) := lv_sub hl [0, 1, 2, 3, 4] rfl
      refine W.known (fun hza hna => ?_)
      refine W.widen (k := 1875) (n := 120000) (by omega) (by omega) ?_
      exact join4 _ _ _ _ ⟨fX_sheet_4, dX_sheet_4, nX_sheet_4, iX_sheetLength_4, b_fX_sheet_4, (by first | exact b_nX_sheet_4 | with_reducible assumption | exact ⟨by omega, by omega⟩ | assumption), (b_iX_sheetLength_4), (by first | with_reducible assumption | omega | (rw [iI_t (by omega) (by omega)]; omega) | (have h7 : (0 : Int32).toInt = 0 := (by decide); omega)), (show iX_sheetLength.toInt ≤ iX_sheetLength_4.toInt from by omega), (show nX_sheet ≤ nX_sheet_4 from by omega), ⟨by omega, by omega⟩, rfl, hP, hD, hS, hl⟩
  · intro H locs ls stk
    refine fz_e4 ?_
    intro fX_sheet_j4 dX_sheet_j4 nX_sheet_j4 iX_sheetLength_j4
    refine fz_a12 ?_
    intro b_fX_sheet_j4 b_nX_sheet_j4 b_iX_sheetLength_j4 b_shl_j4 hjx hgm0_j4 hzn9_6 hst9_7 hP hD hS hl
    have hzj := hzn9_6.1
    have hnj := hzn9_6.2
    clear hzn9_6
    subst hst9_7
    refine W.tight (cells2 := (nX_sheet_j4 / 32 - (nX_sheet / 32))) (slots2 := (2 * nX_sheet_j4 - (2 * nX_sheet))) (tg1 hzj hS.1) (tg2 hnj) ?_
    refine lv_iload_n hx hb dX11_putTimes_26 rfl (lv_at hl 1 rfl) ?_
    refine W.known (fun hzk hnk => ?_)
    refine W.widen (k := 1875) (n := 120000) (by omega) (by omega) ?_
    refine W.cut (pc := 36) (fun H locs ls stk => ∃ (k0_j5 : Int32), (H.size + (nX_sheet / 32) ≤ s.heap.size + (nX_sheet_j4 / 32) ∧ nS s.heap.size H + (2 * nX_sheet) ≤ (2 * nX_sheet_j4)) ∧  stk = [.int k0_j5] ∧ va_P (dC, dI) vwCl (WX hX aX kX hT hM fX_ready fX_sheet_j4 dX_sheet_j4 nX_sheet_j4 iX_sheetLength_j4 xX_reader xX_solver xX_prover xX_values xX_clauses xX_nets) H ∧ va_D A (WX hX aX kX hT hM fX_ready fX_sheet_j4 dX_sheet_j4 nX_sheet_j4 iX_sheetLength_j4 xX_reader xX_solver xX_prover xX_values xX_clauses xX_nets) ∧ va_S A s.heap H locs ∧ lv_has ls 6 [(0, .ref (hX 0)), (1, .int p1), (2, .int p2), (3, .int p3), (4, .int p4)]) (fun join5 => ?_) ?_
    · refine W.tight (cells2 := (nX_sheet_j4 / 32 - (nX_sheet / 32))) (slots2 := (2 * nX_sheet_j4 - (2 * nX_sheet))) hzk hnk ?_
      refine lv_if_ge (tgt := 35) hx hb dX11_putTimes_27 (by decide) (fun c_27 => ?_) (fun c_27 => ?_)
      · have t_27 : p1.toInt ≥ 0 := toI_ge c_27 rfl (by decide : (0 : Int32).toInt = 0)
        refine lv_iload_n hx hb dX11_putTimes_35 rfl (lv_at hl 1 rfl) ?_
        have hl : lv_has _ _ ([(0, .ref (hX 0)), (1, .int p1), (2, .int p2), (3, .int p3), (4, .int p4)]) := lv_sub hl [0, 1, 2, 3, 4] rfl
        refine W.known (fun hza hna => ?_)
        refine W.widen (k := 1875) (n := 120000) (by omega) (by omega) ?_
        exact join5 _ _ _ _ ⟨p1, ⟨by omega, by omega⟩, rfl, hP, hD, hS, hl⟩
      · have t_27 : ¬ p1.toInt ≥ 0 := toI_nge c_27 rfl (by decide : (0 : Int32).toInt = 0)
        refine lv_iload_n hx hb dX11_putTimes_30 rfl (lv_at hl 1 rfl) ?_
        refine lv_ineg hx hb dX11_putTimes_31 ?_
        refine lv_topi (fun y6 hy6 => ?_)
        obtain rfl : (iI (-p1.toInt)) = y6 := (hy6.trans (iI_neg2 (iI_of _))).symm
        refine lv_goto (tgt := 36) hx hb dX11_putTimes_32 (by decide) ?_
        have hl : lv_has _ _ ([(0, .ref (hX 0)), (1, .int p1), (2, .int p2), (3, .int p3), (4, .int p4)]) := lv_sub hl [0, 1, 2, 3, 4] rfl
        refine W.known (fun hza hna => ?_)
        refine W.widen (k := 1875) (n := 120000) (by omega) (by omega) ?_
        exact join5 _ _ _ _ ⟨(iI (-p1.toInt)), ⟨by omega, by omega⟩, rfl, hP, hD, hS, hl⟩
    · rintro H locs ls stk ⟨k0_j5, ⟨hzj, hnj⟩, rfl, hP, hD, hS, hl⟩
      refine W.tight (cells2 := (nX_sheet_j4 / 32 - (nX_sheet / 32))) (slots2 := (2 * nX_sheet_j4 - (2 * nX_sheet))) (tg1 hzj hS.1) (tg2 hnj) ?_
      refine lv_istore hx hb dX11_putTimes_36 hl (by decide) rfl (fun ls (hl : lv_has ls _ ([(5, .int k0_j5), (0, .ref (hX 0)), (1, .int p1), (2, .int p2), (3, .int p3), (4, .int p4)])) => ?_)
      refine lv_iload hx hb dX11_putTimes_38 (lv_at hl 0 rfl) ?_
      refine lv_iconst (v := 1) hx hb dX11_putTimes_40 (by decide) ?_
      refine W.known (fun hzk hnk => ?_)
      refine W.widen (k := 1875) (n := 120000) (by omega) (by omega) ?_
      refine W.cut (pc := 69) (fun H locs ls stk => ∃ (fX_sheet_j6 : Nat → Int32) (dX_sheet_j6 : Nat) (nX_sheet_j6 : Nat) (iX_sheetLength_j6 : Int32), (∀ q : Nat, (-128) ≤ (fX_sheet_j6 q).toInt ∧ (fX_sheet_j6 q).toInt ≤ 127) ∧ (64 ≤ nX_sheet_j6 ∧ nX_sheet_j6 ≤ 60000) ∧ (0 ≤ iX_sheetLength_j6.toInt ∧ iX_sheetLength_j6.toInt ≤ 30000) ∧ (iX_sheetLength_j6.toInt ≤ ((nX_sheet_j6 : Nat) : Int)) ∧ (iX_sheetLength.toInt ≤ iX_sheetLength_j6.toInt) ∧ (nX_sheet ≤ nX_sheet_j6) ∧ (H.size + (nX_sheet / 32) ≤ s.heap.size + (nX_sheet_j6 / 32) ∧ nS s.heap.size H + (2 * nX_sheet) ≤ (2 * nX_sheet_j6)) ∧  stk = [] ∧ va_P (dC, dI) vwCl (WX hX aX kX hT hM fX_ready fX_sheet_j6 dX_sheet_j6 nX_sheet_j6 iX_sheetLength_j6 xX_reader xX_solver xX_prover xX_values xX_clauses xX_nets) H ∧ va_D A (WX hX aX kX hT hM fX_ready fX_sheet_j6 dX_sheet_j6 nX_sheet_j6 iX_sheetLength_j6 xX_reader xX_solver xX_prover xX_values xX_clauses xX_nets) ∧ va_S A s.heap H locs ∧ lv_has ls 6 [(5, .int k0_j5), (0, .ref (hX 0)), (1, .int p1), (2, .int p2), (3, .int p3), (4, .int p4)]) (fun join6 => ?_) ?_
      · refine W.tight (cells2 := (nX_sheet_j4 / 32 - (nX_sheet / 32))) (slots2 := (2 * nX_sheet_j4 - (2 * nX_sheet))) hzk hnk ?_
        refine lv_icmp_ne (tgt := 49) hx hb dX11_putTimes_41 (by decide) (fun c_41 => ?_) (fun c_41 => ?_)
        · have t_41 : k0_j5.toInt ≠ 1 := toI_ne c_41 rfl (by decide : (1 : Int32).toInt = 1)
          refine lv_aload_n hx hb dX11_putTimes_49 rfl (lv_at hl 1 rfl) ?_
          refine lv_bipush (v := 32) hx hb dX11_putTimes_50 (by decide) ?_
          refine W.known (fun hz0 hn0 => ?_)
          have hS0 := hS.1
          have hFc := allFree hD hS hA
          refine va_callv (va_runV (As := [.int 32]) (rest := []) ⟨hx, hb, hml, hown, hts⟩ (Met.sV (m_X11_put l dC dI hX aX kX hT hM fX_ready fX_sheet_j4 dX_sheet_j4 nX_sheet_j4 iX_sheetLength_j4 xX_reader xX_solver xX_prover xX_values xX_clauses xX_nets 32 b_fX_sheet_j4 (by first | exact b_nX_sheet_j4 | with_reducible assumption | exact ⟨by omega, by omega⟩ | assumption) (b_iX_sheetLength_j4) (by first | with_reducible assumption | omega | (rw [iI_t (by omega) (by omega)]; omega) | (have h7 : (0 : Int32).toInt = 0 := (by decide); omega)) H.size) H) (cwV 1 hts gwsMX11_putTimes_1 rfl rfl rfl (by decide +kernel) ⟨by first | decide +kernel | (dsimp only [headSpec] <;> omega), by first | decide +kernel | (dsimp only [headSpec] <;> omega)⟩) ⟨fun a U g mk q => by obtain ⟨q0, qh, q1, qP, qK, qD⟩ := q; exact ⟨q0, qh, q1, qP, va_K.moved (u := U) (U := U.calling g mk a) (Vm.Alike.refl U.vm) qK, qD⟩, va_recv hK hP (ci := 11) (q0 := 0) rfl rfl, fun U hU9 hW => ⟨rfl, hU9, by rw [hU9], by rw [hU9]; exact hP, va_K.moved hW.alike hK, hD.weaken (fun _ _ _ _ => trivial)⟩⟩ rfl rfl hl.1 rfl (lv_room (Nat.le_of_ble_eq_true rfl)) dX11_putTimes_52 ⟨by first | decide +kernel | (dsimp only [headSpec] <;> omega), by first | decide +kernel | (dsimp only [headSpec] <;> omega)⟩) hS (fun q _ h => hFc q h) hFc (fun u t9_ H locs ht hvm hw9 hB9 hz1 hk1 hS => ?_)
          revert u hw9 hB9
          refine fz_p4 ?_
          intro fX_sheet_13 dX_sheet_13 nX_sheet_13 iX_sheetLength_13 hw9 hB9
          try dsimp only at hw9 hB9
          revert hw9
          refine fz_a6 ?_
          intro b_fX_sheet_13 b_nX_sheet_13 b_iX_sheetLength_13 b_shl_13 f13_0 f13_1
          have hg1 := hB9.1.2.2.1
          rw [ht] at hg1
          have hg2 := hB9.1.2.2.2
          rw [ht] at hg2
          have hSz := hB9.2
          rw [ht] at hSz
          have hP : va_P (dC, dI) vwCl (WX hX aX kX hT hM fX_ready fX_sheet_13 dX_sheet_13 nX_sheet_13 iX_sheetLength_13 xX_reader xX_solver xX_prover xX_values xX_clauses xX_nets) H := fz_P ht hB9.1.1
          have hD := fz_sd hP (hB9.1.2.1.weaken (fun _ q _ h => hFc q.1 h)) rfl
          have hz9 : H.size ≤ s.heap.size + (nX_sheet_13 / 32 - (nX_sheet / 32)) := by (try dsimp only at hg1); omega
          have hn9 : nS s.heap.size H ≤ (2 * nX_sheet_13 - (2 * nX_sheet)) := by rw [hSz.n hS0]; (try dsimp only at hg2); omega
          refine W.tight (cells2 := (nX_sheet_13 / 32 - (nX_sheet / 32))) (slots2 := (2 * nX_sheet_13 - (2 * nX_sheet))) hz9 hn9 ?_
          clear hz9 hn9 hz0 hn0 hS0 hSz hg1 hg2
          refine lv_aload_n hx hb dX11_putTimes_55 rfl (lv_at hl 1 rfl) ?_
          refine lv_iload hx hb dX11_putTimes_56 (lv_at hl 0 rfl) ?_
          refine lv_iload_n hx hb dX11_putTimes_58 rfl (lv_at hl 3 rfl) ?_
          refine W.known (fun hz0 hn0 => ?_)
          have hS0 := hS.1
          have hFc := allFree hD hS hA
          refine va_callv (va_runV (As := [.int k0_j5, .int p2]) (rest := []) ⟨hx, hb, hml, hown, hts⟩ (Met.sV (m_X11_putRatio l dC dI hX aX kX hT hM fX_ready fX_sheet_13 dX_sheet_13 nX_sheet_13 iX_sheetLength_13 xX_reader xX_solver xX_prover xX_values xX_clauses xX_nets k0_j5 p2 b_fX_sheet_13 (by first | exact b_nX_sheet_13 | with_reducible assumption | exact ⟨by omega, by omega⟩ | assumption) (b_iX_sheetLength_13) (by first | with_reducible assumption | omega | (rw [iI_t (by omega) (by omega)]; omega) | (have h7 : (0 : Int32).toInt = 0 := (by decide); omega)) H.size) H) (cwV 2 hts gwsMX11_putTimes_2 rfl rfl rfl (by decide +kernel) ⟨by first | decide +kernel | (dsimp only [headSpec] <;> omega), by first | decide +kernel | (dsimp only [headSpec] <;> omega)⟩) ⟨fun a U g mk q => by obtain ⟨q0, qh, q1, qP, qK, qD⟩ := q; exact ⟨q0, qh, q1, qP, va_K.moved (u := U) (U := U.calling g mk a) (Vm.Alike.refl U.vm) qK, qD⟩, va_recv hK hP (ci := 11) (q0 := 0) rfl rfl, fun U hU9 hW => ⟨rfl, hU9, by rw [hU9], by rw [hU9]; exact hP, va_K.moved hW.alike hK, hD.weaken (fun _ _ _ _ => trivial)⟩⟩ rfl rfl hl.1 rfl (lv_room (Nat.le_of_ble_eq_true rfl)) dX11_putTimes_59 ⟨by first | decide +kernel | (dsimp only [headSpec] <;> omega), by first | decide +kernel | (dsimp only [headSpec] <;> omega)⟩) hS (fun q _ h => hFc q h) hFc (fun u t9_ H locs ht hvm hw9 hB9 hz1 hk1 hS => ?_)
          revert u hw9 hB9
          refine fz_p4 ?_
          intro fX_sheet_14 dX_sheet_14 nX_sheet_14 iX_sheetLength_14 hw9 hB9
          try dsimp only at hw9 hB9
          revert hw9
          refine fz_a6 ?_
          intro b_fX_sheet_14 b_nX_sheet_14 b_iX_sheetLength_14 b_shl_14 f14_0 f14_1
          have hg1 := hB9.1.2.2.1
          rw [ht] at hg1
          have hg2 := hB9.1.2.2.2
          rw [ht] at hg2
          have hSz := hB9.2
          rw [ht] at hSz
          have hP : va_P (dC, dI) vwCl (WX hX aX kX hT hM fX_ready fX_sheet_14 dX_sheet_14 nX_sheet_14 iX_sheetLength_14 xX_reader xX_solver xX_prover xX_values xX_clauses xX_nets) H := fz_P ht hB9.1.1
          have hD := fz_sd hP (hB9.1.2.1.weaken (fun _ q _ h => hFc q.1 h)) rfl
          have hz9 : H.size ≤ s.heap.size + (nX_sheet_14 / 32 - (nX_sheet / 32)) := by (try dsimp only at hg1); omega
          have hn9 : nS s.heap.size H ≤ (2 * nX_sheet_14 - (2 * nX_sheet)) := by rw [hSz.n hS0]; (try dsimp only at hg2); omega
          refine W.tight (cells2 := (nX_sheet_14 / 32 - (nX_sheet / 32))) (slots2 := (2 * nX_sheet_14 - (2 * nX_sheet))) hz9 hn9 ?_
          clear hz9 hn9 hz0 hn0 hS0 hSz hg1 hg2
          refine lv_aload_n hx hb dX11_putTimes_62 rfl (lv_at hl 1 rfl) ?_
          obtain ⟨qS322, hR322, hSS322⟩ := hE.2.2.2 14 _ rfl
          refine lv_ldcwS hx hb hown hR322 dX11_putTimes_63 ?_
          refine W.known (fun hz0 hn0 => ?_)
          have hS0 := hS.1
          have hFc := allFree hD hS hA
          refine va_callv (va_runV (As := [.ref qS322]) (rest := []) ⟨hx, hb, hml, hown, hts⟩ (Met.sV (m_X11_putText l dC dI hX aX kX hT hM fX_ready fX_sheet_14 dX_sheet_14 nX_sheet_14 iX_sheetLength_14 xX_reader xX_solver xX_prover xX_values xX_clauses xX_nets qS322 2 (fun j => ([32, 42] : List Int32).getD j 0) b_fX_sheet_14 (by first | exact b_nX_sheet_14 | with_reducible assumption | exact ⟨by omega, by omega⟩ | assumption) (b_iX_sheetLength_14) (by first | with_reducible assumption | omega | (rw [iI_t (by omega) (by omega)]; omega) | (have h7 : (0 : Int32).toInt = 0 := (by decide); omega)) (by decide) H.size) H) (cwV 1 hts gwsMX11_putTimes_0 rfl rfl rfl (by decide +kernel) ⟨by first | decide +kernel | (dsimp only [headSpec] <;> omega), by first | decide +kernel | (dsimp only [headSpec] <;> omega)⟩) ⟨fun a U g mk q => by obtain ⟨q0, qh, q1, qP, qK, qD, qE⟩ := q; exact ⟨q0, qh, q1, qP, va_K.moved (u := U) (U := U.calling g mk a) (Vm.Alike.refl U.vm) qK, qD, qE.same rfl⟩, va_recv hK hP (ci := 11) (q0 := 0) rfl rfl, fun U hU9 hW => ⟨rfl, hU9, by rw [hU9], by rw [hU9]; exact hP, va_K.moved hW.alike hK, hD.weaken (fun _ _ _ _ => trivial), by rw [hU9]; exact (((hSS322 : (StrE qS322 2 (fun j => ([32, 42] : List Int32).getD j 0)) A s s.heap).kept hS.2.1).narrow (fun q h => hFc q h)).warm hW⟩⟩ rfl rfl hl.1 rfl (lv_room (Nat.le_of_ble_eq_true rfl)) dX11_putTimes_66 ⟨by first | decide +kernel | (dsimp only [headSpec] <;> omega), by first | decide +kernel | (dsimp only [headSpec] <;> omega)⟩) hS (fun q _ h => hFc q h) hFc (fun u t9_ H locs ht hvm hw9 hB9 hz1 hk1 hS => ?_)
          revert u hw9 hB9
          refine fz_p4 ?_
          intro fX_sheet_15 dX_sheet_15 nX_sheet_15 iX_sheetLength_15 hw9 hB9
          try dsimp only at hw9 hB9
          revert hw9
          refine fz_a6 ?_
          intro b_fX_sheet_15 b_nX_sheet_15 b_iX_sheetLength_15 b_shl_15 f15_0 f15_1
          have hg1 := hB9.1.2.2.1
          rw [ht] at hg1
          have hg2 := hB9.1.2.2.2
          rw [ht] at hg2
          have hSz := hB9.2
          rw [ht] at hSz
          have hP : va_P (dC, dI) vwCl (WX hX aX kX hT hM fX_ready fX_sheet_15 dX_sheet_15 nX_sheet_15 iX_sheetLength_15 xX_reader xX_solver xX_prover xX_values xX_clauses xX_nets) H := fz_P ht hB9.1.1
          have hD := fz_sd hP (hB9.1.2.1.weaken (fun _ q _ h => hFc q.1 h)) rfl
          have hz9 : H.size ≤ s.heap.size + (nX_sheet_15 / 32 - (nX_sheet / 32)) := by (try dsimp only at hg1); omega
          have hn9 : nS s.heap.size H ≤ (2 * nX_sheet_15 - (2 * nX_sheet)) := by rw [hSz.n hS0]; (try dsimp only at hg2); omega
          refine W.tight (cells2 := (nX_sheet_15 / 32 - (nX_sheet / 32))) (slots2 := (2 * nX_sheet_15 - (2 * nX_sheet))) hz9 hn9 ?_
          clear hz9 hn9 hz0 hn0 hS0 hSz hg1 hg2
          have hl : lv_has _ _ ([(5, .int k0_j5), (0, .ref (hX 0)), (1, .int p1), (2, .int p2), (3, .int p3), (4, .int p4)]) := lv_sub hl [0, 1, 2, 3, 4, 5] rfl
          refine W.known (fun hza hna => ?_)
          refine W.widen (k := 1875) (n := 120000) (by omega) (by omega) ?_
          exact join6 _ _ _ _ ⟨fX_sheet_15, dX_sheet_15, nX_sheet_15, iX_sheetLength_15, b_fX_sheet_15, (by first | exact b_nX_sheet_15 | with_reducible assumption | exact ⟨by omega, by omega⟩ | assumption), (b_iX_sheetLength_15), (by first | with_reducible assumption | omega | (rw [iI_t (by omega) (by omega)]; omega) | (have h7 : (0 : Int32).toInt = 0 := (by decide); omega)), (show iX_sheetLength.toInt ≤ iX_sheetLength_15.toInt from by omega), (show nX_sheet ≤ nX_sheet_15 from by omega), ⟨by omega, by omega⟩, rfl, hP, hD, hS, hl⟩
        · have t_41 : k0_j5.toInt = 1 := toI_nne c_41 rfl (by decide : (1 : Int32).toInt = 1)
          refine lv_iload_n hx hb dX11_putTimes_44 rfl (lv_at hl 3 rfl) ?_
          refine lv_iconst (v := 1) hx hb dX11_putTimes_45 (by decide) ?_
          refine lv_icmp_eq (tgt := 69) hx hb dX11_putTimes_46 (by decide) (fun c_46 => ?_) (fun c_46 => ?_)
          · have t_46 : p2.toInt = 1 := toI_eq c_46 rfl (by decide : (1 : Int32).toInt = 1)
            have hl : lv_has _ _ ([(5, .int k0_j5), (0, .ref (hX 0)), (1, .int p1), (2, .int p2), (3, .int p3), (4, .int p4)]) := lv_sub hl [0, 1, 2, 3, 4, 5] rfl
            refine W.known (fun hza hna => ?_)
            refine W.widen (k := 1875) (n := 120000) (by omega) (by omega) ?_
            exact join6 _ _ _ _ ⟨fX_sheet_j4, dX_sheet_j4, nX_sheet_j4, iX_sheetLength_j4, b_fX_sheet_j4, (by first | exact b_nX_sheet_j4 | with_reducible assumption | exact ⟨by omega, by omega⟩ | assumption), (b_iX_sheetLength_j4), (by first | with_reducible assumption | omega | (rw [iI_t (by omega) (by omega)]; omega) | (have h7 : (0 : Int32).toInt = 0 := (by decide); omega)), (show iX_sheetLength.toInt ≤ iX_sheetLength_j4.toInt from by omega), (show nX_sheet ≤ nX_sheet_j4 from by omega), ⟨by omega, by omega⟩, rfl, hP, hD, hS, hl⟩
          · have t_46 : ¬ p2.toInt = 1 := toI_neq c_46 rfl (by decide : (1 : Int32).toInt = 1)
            refine lv_aload_n hx hb dX11_putTimes_49 rfl (lv_at hl 1 rfl) ?_
            refine lv_bipush (v := 32) hx hb dX11_putTimes_50 (by decide) ?_
            refine W.known (fun hz0 hn0 => ?_)
            have hS0 := hS.1
            have hFc := allFree hD hS hA
            refine va_callv (va_runV (As := [.int 32]) (rest := []) ⟨hx, hb, hml, hown, hts⟩ (Met.sV (m_X11_put l dC dI hX aX kX hT hM fX_ready fX_sheet_j4 dX_sheet_j4 nX_sheet_j4 iX_sheetLength_j4 xX_reader xX_solver xX_prover xX_values xX_clauses xX_nets 32 b_fX_sheet_j4 (by first | exact b_nX_sheet_j4 | with_reducible assumption | exact ⟨by omega, by omega⟩ | assumption) (b_iX_sheetLength_j4) (by first | with_reducible assumption | omega | (rw [iI_t (by omega) (by omega)]; omega) | (have h7 : (0 : Int32).toInt = 0 := (by decide); omega)) H.size) H) (cwV 1 hts gwsMX11_putTimes_1 rfl rfl rfl (by decide +kernel) ⟨by first | decide +kernel | (dsimp only [headSpec] <;> omega), by first | decide +kernel | (dsimp only [headSpec] <;> omega)⟩) ⟨fun a U g mk q => by obtain ⟨q0, qh, q1, qP, qK, qD⟩ := q; exact ⟨q0, qh, q1, qP, va_K.moved (u := U) (U := U.calling g mk a) (Vm.Alike.refl U.vm) qK, qD⟩, va_recv hK hP (ci := 11) (q0 := 0) rfl rfl, fun U hU9 hW => ⟨rfl, hU9, by rw [hU9], by rw [hU9]; exact hP, va_K.moved hW.alike hK, hD.weaken (fun _ _ _ _ => trivial)⟩⟩ rfl rfl hl.1 rfl (lv_room (Nat.le_of_ble_eq_true rfl)) dX11_putTimes_52 ⟨by first | decide +kernel | (dsimp only [headSpec] <;> omega), by first | decide +kernel | (dsimp only [headSpec] <;> omega)⟩) hS (fun q _ h => hFc q h) hFc (fun u t9_ H locs ht hvm hw9 hB9 hz1 hk1 hS => ?_)
            revert u hw9 hB9
            refine fz_p4 ?_
            intro fX_sheet_16 dX_sheet_16 nX_sheet_16 iX_sheetLength_16 hw9 hB9
            try dsimp only at hw9 hB9
            revert hw9
            refine fz_a6 ?_
            intro b_fX_sheet_16 b_nX_sheet_16 b_iX_sheetLength_16 b_shl_16 f16_0 f16_1
            have hg1 := hB9.1.2.2.1
            rw [ht] at hg1
            have hg2 := hB9.1.2.2.2
            rw [ht] at hg2
            have hSz := hB9.2
            rw [ht] at hSz
            have hP : va_P (dC, dI) vwCl (WX hX aX kX hT hM fX_ready fX_sheet_16 dX_sheet_16 nX_sheet_16 iX_sheetLength_16 xX_reader xX_solver xX_prover xX_values xX_clauses xX_nets) H := fz_P ht hB9.1.1
            have hD := fz_sd hP (hB9.1.2.1.weaken (fun _ q _ h => hFc q.1 h)) rfl
            have hz9 : H.size ≤ s.heap.size + (nX_sheet_16 / 32 - (nX_sheet / 32)) := by (try dsimp only at hg1); omega
            have hn9 : nS s.heap.size H ≤ (2 * nX_sheet_16 - (2 * nX_sheet)) := by rw [hSz.n hS0]; (try dsimp only at hg2); omega
            refine W.tight (cells2 := (nX_sheet_16 / 32 - (nX_sheet / 32))) (slots2 := (2 * nX_sheet_16 - (2 * nX_sheet))) hz9 hn9 ?_
            clear hz9 hn9 hz0 hn0 hS0 hSz hg1 hg2
            refine lv_aload_n hx hb dX11_putTimes_55 rfl (lv_at hl 1 rfl) ?_
            refine lv_iload hx hb dX11_putTimes_56 (lv_at hl 0 rfl) ?_
            refine lv_iload_n hx hb dX11_putTimes_58 rfl (lv_at hl 3 rfl) ?_
            refine W.known (fun hz0 hn0 => ?_)
            have hS0 := hS.1
            have hFc := allFree hD hS hA
            refine va_callv (va_runV (As := [.int k0_j5, .int p2]) (rest := []) ⟨hx, hb, hml, hown, hts⟩ (Met.sV (m_X11_putRatio l dC dI hX aX kX hT hM fX_ready fX_sheet_16 dX_sheet_16 nX_sheet_16 iX_sheetLength_16 xX_reader xX_solver xX_prover xX_values xX_clauses xX_nets k0_j5 p2 b_fX_sheet_16 (by first | exact b_nX_sheet_16 | with_reducible assumption | exact ⟨by omega, by omega⟩ | assumption) (b_iX_sheetLength_16) (by first | with_reducible assumption | omega | (rw [iI_t (by omega) (by omega)]; omega) | (have h7 : (0 : Int32).toInt = 0 := (by decide); omega)) H.size) H) (cwV 2 hts gwsMX11_putTimes_2 rfl rfl rfl (by decide +kernel) ⟨by first | decide +kernel | (dsimp only [headSpec] <;> omega), by first | decide +kernel | (dsimp only [headSpec] <;> omega)⟩) ⟨fun a U g mk q => by obtain ⟨q0, qh, q1, qP, qK, qD⟩ := q; exact ⟨q0, qh, q1, qP, va_K.moved (u := U) (U := U.calling g mk a) (Vm.Alike.refl U.vm) qK, qD⟩, va_recv hK hP (ci := 11) (q0 := 0) rfl rfl, fun U hU9 hW => ⟨rfl, hU9, by rw [hU9], by rw [hU9]; exact hP, va_K.moved hW.alike hK, hD.weaken (fun _ _ _ _ => trivial)⟩⟩ rfl rfl hl.1 rfl (lv_room (Nat.le_of_ble_eq_true rfl)) dX11_putTimes_59 ⟨by first | decide +kernel | (dsimp only [headSpec] <;> omega), by first | decide +kernel | (dsimp only [headSpec] <;> omega)⟩) hS (fun q _ h => hFc q h) hFc (fun u t9_ H locs ht hvm hw9 hB9 hz1 hk1 hS => ?_)
            revert u hw9 hB9
            refine fz_p4 ?_
            intro fX_sheet_17 dX_sheet_17 nX_sheet_17 iX_sheetLength_17 hw9 hB9
            try dsimp only at hw9 hB9
            revert hw9
            refine fz_a6 ?_
            intro b_fX_sheet_17 b_nX_sheet_17 b_iX_sheetLength_17 b_shl_17 f17_0 f17_1
            have hg1 := hB9.1.2.2.1
            rw [ht] at hg1
            have hg2 := hB9.1.2.2.2
            rw [ht] at hg2
            have hSz := hB9.2
            rw [ht] at hSz
            have hP : va_P (dC, dI) vwCl (WX hX aX kX hT hM fX_ready fX_sheet_17 dX_sheet_17 nX_sheet_17 iX_sheetLength_17 xX_reader xX_solver xX_prover xX_values xX_clauses xX_nets) H := fz_P ht hB9.1.1
            have hD := fz_sd hP (hB9.1.2.1.weaken (fun _ q _ h => hFc q.1 h)) rfl
            have hz9 : H.size ≤ s.heap.size + (nX_sheet_17 / 32 - (nX_sheet / 32)) := by (try dsimp only at hg1); omega
            have hn9 : nS s.heap.size H ≤ (2 * nX_sheet_17 - (2 * nX_sheet)) := by rw [hSz.n hS0]; (try dsimp only at hg2); omega
            refine W.tight (cells2 := (nX_sheet_17 / 32 - (nX_sheet / 32))) (slots2 := (2 * nX_sheet_17 - (2 * nX_sheet))) hz9 hn9 ?_
            clear hz9 hn9 hz0 hn0 hS0 hSz hg1 hg2
            refine lv_aload_n hx hb dX11_putTimes_62 rfl (lv_at hl 1 rfl) ?_
            obtain ⟨qS322, hR322, hSS322⟩ := hE.2.2.2 14 _ rfl
            refine lv_ldcwS hx hb hown hR322 dX11_putTimes_63 ?_
            refine W.known (fun hz0 hn0 => ?_)
            have hS0 := hS.1
            have hFc := allFree hD hS hA
            refine va_callv (va_runV (As := [.ref qS322]) (rest := []) ⟨hx, hb, hml, hown, hts⟩ (Met.sV (m_X11_putText l dC dI hX aX kX hT hM fX_ready fX_sheet_17 dX_sheet_17 nX_sheet_17 iX_sheetLength_17 xX_reader xX_solver xX_prover xX_values xX_clauses xX_nets qS322 2 (fun j => ([32, 42] : List Int32).getD j 0) b_fX_sheet_17 (by first | exact b_nX_sheet_17 | with_reducible assumption | exact ⟨by omega, by omega⟩ | assumption) (b_iX_sheetLength_17) (by first | with_reducible assumption | omega | (rw [iI_t (by omega) (by omega)]; omega) | (have h7 : (0 : Int32).toInt = 0 := (by decide); omega)) (by decide) H.size) H) (cwV 1 hts gwsMX11_putTimes_0 rfl rfl rfl (by decide +kernel) ⟨by first | decide +kernel | (dsimp only [headSpec] <;> omega), by first | decide +kernel | (dsimp only [headSpec] <;> omega)⟩) ⟨fun a U g mk q => by obtain ⟨q0, qh, q1, qP, qK, qD, qE⟩ := q; exact ⟨q0, qh, q1, qP, va_K.moved (u := U) (U := U.calling g mk a) (Vm.Alike.refl U.vm) qK, qD, qE.same rfl⟩, va_recv hK hP (ci := 11) (q0 := 0) rfl rfl, fun U hU9 hW => ⟨rfl, hU9, by rw [hU9], by rw [hU9]; exact hP, va_K.moved hW.alike hK, hD.weaken (fun _ _ _ _ => trivial), by rw [hU9]; exact (((hSS322 : (StrE qS322 2 (fun j => ([32, 42] : List Int32).getD j 0)) A s s.heap).kept hS.2.1).narrow (fun q h => hFc q h)).warm hW⟩⟩ rfl rfl hl.1 rfl (lv_room (Nat.le_of_ble_eq_true rfl)) dX11_putTimes_66 ⟨by first | decide +kernel | (dsimp only [headSpec] <;> omega), by first | decide +kernel | (dsimp only [headSpec] <;> omega)⟩) hS (fun q _ h => hFc q h) hFc (fun u t9_ H locs ht hvm hw9 hB9 hz1 hk1 hS => ?_)
            revert u hw9 hB9
            refine fz_p4 ?_
            intro fX_sheet_18 dX_sheet_18 nX_sheet_18 iX_sheetLength_18 hw9 hB9
            try dsimp only at hw9 hB9
            revert hw9
            refine fz_a6 ?_
            intro b_fX_sheet_18 b_nX_sheet_18 b_iX_sheetLength_18 b_shl_18 f18_0 f18_1
            have hg1 := hB9.1.2.2.1
            rw [ht] at hg1
            have hg2 := hB9.1.2.2.2
            rw [ht] at hg2
            have hSz := hB9.2
            rw [ht] at hSz
            have hP : va_P (dC, dI) vwCl (WX hX aX kX hT hM fX_ready fX_sheet_18 dX_sheet_18 nX_sheet_18 iX_sheetLength_18 xX_reader xX_solver xX_prover xX_values xX_clauses xX_nets) H := fz_P ht hB9.1.1
            have hD := fz_sd hP (hB9.1.2.1.weaken (fun _ q _ h => hFc q.1 h)) rfl
            have hz9 : H.size ≤ s.heap.size + (nX_sheet_18 / 32 - (nX_sheet / 32)) := by (try dsimp only at hg1); omega
            have hn9 : nS s.heap.size H ≤ (2 * nX_sheet_18 - (2 * nX_sheet)) := by rw [hSz.n hS0]; (try dsimp only at hg2); omega
            refine W.tight (cells2 := (nX_sheet_18 / 32 - (nX_sheet / 32))) (slots2 := (2 * nX_sheet_18 - (2 * nX_sheet))) hz9 hn9 ?_
            clear hz9 hn9 hz0 hn0 hS0 hSz hg1 hg2
            have hl : lv_has _ _ ([(5, .int k0_j5), (0, .ref (hX 0)), (1, .int p1), (2, .int p2), (3, .int p3), (4, .int p4)]) := lv_sub hl [0, 1, 2, 3, 4, 5] rfl
            refine W.known (fun hza hna => ?_)
            refine W.widen (k := 1875) (n := 120000) (by omega) (by omega) ?_
            exact join6 _ _ _ _ ⟨fX_sheet_18, dX_sheet_18, nX_sheet_18, iX_sheetLength_18, b_fX_sheet_18, (by first | exact b_nX_sheet_18 | with_reducible assumption | exact ⟨by omega, by omega⟩ | assumption), (b_iX_sheetLength_18), (by first | with_reducible assumption | omega | (rw [iI_t (by omega) (by omega)]; omega) | (have h7 : (0 : Int32).toInt = 0 := (by decide); omega)), (show iX_sheetLength.toInt ≤ iX_sheetLength_18.toInt from by omega), (show nX_sheet ≤ nX_sheet_18 from by omega), ⟨by omega, by omega⟩, rfl, hP, hD, hS, hl⟩
      · intro H locs ls stk
        refine fz_e4 ?_
        intro fX_sheet_j6 dX_sheet_j6 nX_sheet_j6 iX_sheetLength_j6
        refine fz_a12 ?_
        intro b_fX_sheet_j6 b_nX_sheet_j6 b_iX_sheetLength_j6 b_shl_j6 hjx hgm0_j6 hzn9_6 hst9_7 hP hD hS hl
        have hzj := hzn9_6.1
        have hnj := hzn9_6.2
        clear hzn9_6
        subst hst9_7
        refine W.tight (cells2 := (nX_sheet_j6 / 32 - (nX_sheet / 32))) (slots2 := (2 * nX_sheet_j6 - (2 * nX_sheet))) (tg1 hzj hS.1) (tg2 hnj) ?_
        refine lv_aload_n hx hb dX11_putTimes_69 rfl (lv_at hl 1 rfl) ?_
        obtain ⟨qS324, hR324, hSS324⟩ := hE.2.2.2 15 _ rfl
        refine lv_ldcwS hx hb hown hR324 dX11_putTimes_70 ?_
        refine W.known (fun hz0 hn0 => ?_)
        have hS0 := hS.1
        have hFc := allFree hD hS hA
        refine va_callv (va_runV (As := [.ref qS324]) (rest := []) ⟨hx, hb, hml, hown, hts⟩ (Met.sV (m_X11_putText l dC dI hX aX kX hT hM fX_ready fX_sheet_j6 dX_sheet_j6 nX_sheet_j6 iX_sheetLength_j6 xX_reader xX_solver xX_prover xX_values xX_clauses xX_nets qS324 2 (fun j => ([32, 120] : List Int32).getD j 0) b_fX_sheet_j6 (by first | exact b_nX_sheet_j6 | with_reducible assumption | exact ⟨by omega, by omega⟩ | assumption) (b_iX_sheetLength_j6) (by first | with_reducible assumption | omega | (rw [iI_t (by omega) (by omega)]; omega) | (have h7 : (0 : Int32).toInt = 0 := (by decide); omega)) (by decide) H.size) H) (cwV 1 hts gwsMX11_putTimes_0 rfl rfl rfl (by decide +kernel) ⟨by first | decide +kernel | (dsimp only [headSpec] <;> omega), by first | decide +kernel | (dsimp only [headSpec] <;> omega)⟩) ⟨fun a U g mk q => by obtain ⟨q0, qh, q1, qP, qK, qD, qE⟩ := q; exact ⟨q0, qh, q1, qP, va_K.moved (u := U) (U := U.calling g mk a) (Vm.Alike.refl U.vm) qK, qD, qE.same rfl⟩, va_recv hK hP (ci := 11) (q0 := 0) rfl rfl, fun U hU9 hW => ⟨rfl, hU9, by rw [hU9], by rw [hU9]; exact hP, va_K.moved hW.alike hK, hD.weaken (fun _ _ _ _ => trivial), by rw [hU9]; exact (((hSS324 : (StrE qS324 2 (fun j => ([32, 120] : List Int32).getD j 0)) A s s.heap).kept hS.2.1).narrow (fun q h => hFc q h)).warm hW⟩⟩ rfl rfl hl.1 rfl (lv_room (Nat.le_of_ble_eq_true rfl)) dX11_putTimes_73 ⟨by first | decide +kernel | (dsimp only [headSpec] <;> omega), by first | decide +kernel | (dsimp only [headSpec] <;> omega)⟩) hS (fun q _ h => hFc q h) hFc (fun u t9_ H locs ht hvm hw9 hB9 hz1 hk1 hS => ?_)
        revert u hw9 hB9
        refine fz_p4 ?_
        intro fX_sheet_19 dX_sheet_19 nX_sheet_19 iX_sheetLength_19 hw9 hB9
        try dsimp only at hw9 hB9
        revert hw9
        refine fz_a6 ?_
        intro b_fX_sheet_19 b_nX_sheet_19 b_iX_sheetLength_19 b_shl_19 f19_0 f19_1
        have hg1 := hB9.1.2.2.1
        rw [ht] at hg1
        have hg2 := hB9.1.2.2.2
        rw [ht] at hg2
        have hSz := hB9.2
        rw [ht] at hSz
        have hP : va_P (dC, dI) vwCl (WX hX aX kX hT hM fX_ready fX_sheet_19 dX_sheet_19 nX_sheet_19 iX_sheetLength_19 xX_reader xX_solver xX_prover xX_values xX_clauses xX_nets) H := fz_P ht hB9.1.1
        have hD := fz_sd hP (hB9.1.2.1.weaken (fun _ q _ h => hFc q.1 h)) rfl
        have hz9 : H.size ≤ s.heap.size + (nX_sheet_19 / 32 - (nX_sheet / 32)) := by (try dsimp only at hg1); omega
        have hn9 : nS s.heap.size H ≤ (2 * nX_sheet_19 - (2 * nX_sheet)) := by rw [hSz.n hS0]; (try dsimp only at hg2); omega
        refine W.tight (cells2 := (nX_sheet_19 / 32 - (nX_sheet / 32))) (slots2 := (2 * nX_sheet_19 - (2 * nX_sheet))) hz9 hn9 ?_
        clear hz9 hn9 hz0 hn0 hS0 hSz hg1 hg2
        refine lv_aload_n hx hb dX11_putTimes_76 rfl (lv_at hl 1 rfl) ?_
        refine lv_iload_n hx hb dX11_putTimes_77 rfl (lv_at hl 4 rfl) ?_
        refine W.known (fun hz0 hn0 => ?_)
        have hS0 := hS.1
        have hFc := allFree hD hS hA
        refine va_callv (va_runV (As := [.int p3]) (rest := []) ⟨hx, hb, hml, hown, hts⟩ (Met.sV (m_X11_putNumber l dC dI hX aX kX hT hM fX_ready fX_sheet_19 dX_sheet_19 nX_sheet_19 iX_sheetLength_19 xX_reader xX_solver xX_prover xX_values xX_clauses xX_nets p3 b_fX_sheet_19 (by first | exact b_nX_sheet_19 | with_reducible assumption | exact ⟨by omega, by omega⟩ | assumption) (b_iX_sheetLength_19) (by first | with_reducible assumption | omega | (rw [iI_t (by omega) (by omega)]; omega) | (have h7 : (0 : Int32).toInt = 0 := (by decide); omega)) H.size) H) (cwV 1 hts gwsMX11_putTimes_3 rfl rfl rfl (by decide +kernel) ⟨by first | decide +kernel | (dsimp only [headSpec] <;> omega), by first | decide +kernel | (dsimp only [headSpec] <;> omega)⟩) ⟨fun a U g mk q => by obtain ⟨q0, qh, q1, qP, qK, qD⟩ := q; exact ⟨q0, qh, q1, qP, va_K.moved (u := U) (U := U.calling g mk a) (Vm.Alike.refl U.vm) qK, qD⟩, va_recv hK hP (ci := 11) (q0 := 0) rfl rfl, fun U hU9 hW => ⟨rfl, hU9, by rw [hU9], by rw [hU9]; exact hP, va_K.moved hW.alike hK, hD.weaken (fun _ _ _ _ => trivial)⟩⟩ rfl rfl hl.1 rfl (lv_room (Nat.le_of_ble_eq_true rfl)) dX11_putTimes_78 ⟨by first | decide +kernel | (dsimp only [headSpec] <;> omega), by first | decide +kernel | (dsimp only [headSpec] <;> omega)⟩) hS (fun q _ h => hFc q h) hFc (fun u t9_ H locs ht hvm hw9 hB9 hz1 hk1 hS => ?_)
        revert u hw9 hB9
        refine fz_p4 ?_
        intro fX_sheet_20 dX_sheet_20 nX_sheet_20 iX_sheetLength_20 hw9 hB9
        try dsimp only at hw9 hB9
        revert hw9
        refine fz_a6 ?_
        intro b_fX_sheet_20 b_nX_sheet_20 b_iX_sheetLength_20 b_shl_20 f20_0 f20_1
        have hg1 := hB9.1.2.2.1
        rw [ht] at hg1
        have hg2 := hB9.1.2.2.2
        rw [ht] at hg2
        have hSz := hB9.2
        rw [ht] at hSz
        have hP : va_P (dC, dI) vwCl (WX hX aX kX hT hM fX_ready fX_sheet_20 dX_sheet_20 nX_sheet_20 iX_sheetLength_20 xX_reader xX_solver xX_prover xX_values xX_clauses xX_nets) H := fz_P ht hB9.1.1
        have hD := fz_sd hP (hB9.1.2.1.weaken (fun _ q _ h => hFc q.1 h)) rfl
        have hz9 : H.size ≤ s.heap.size + (nX_sheet_20 / 32 - (nX_sheet / 32)) := by (try dsimp only at hg1); omega
        have hn9 : nS s.heap.size H ≤ (2 * nX_sheet_20 - (2 * nX_sheet)) := by rw [hSz.n hS0]; (try dsimp only at hg2); omega
        refine W.tight (cells2 := (nX_sheet_20 / 32 - (nX_sheet / 32))) (slots2 := (2 * nX_sheet_20 - (2 * nX_sheet))) hz9 hn9 ?_
        clear hz9 hn9 hz0 hn0 hS0 hSz hg1 hg2
        refine W.known (fun hz9 hn9 => ?_)
        refine W.widen (k := 7501) (n := 540000) (by omega) (by omega) ?_
        exact W.vret hx hb hr (fun t9_ ht hW => ⟨⟨(fX_sheet_20, dX_sheet_20, nX_sheet_20, iX_sheetLength_20), rfl, ⟨b_fX_sheet_20, (by (try dsimp only); exact (by first | exact b_nX_sheet_20 | with_reducible assumption | exact ⟨by omega, by omega⟩ | assumption)), b_iX_sheetLength_20, (by (try dsimp only); exact (by first | with_reducible assumption | omega | (rw [iI_t (by omega) (by omega)]; omega) | (have h7 : (0 : Int32).toInt = 0 := (by decide); omega))), (by (try dsimp only); omega), (by (try dsimp only); first | omega | (rw [iI_t (by omega) (by omega)]; omega))⟩, by rw [ht]; exact hP, hD, by rw [ht]; (try dsimp only); omega, by rw [ht]; (try dsimp only); omega⟩, hS.F ht⟩) hS.2.2 dX11_putTimes_81
theorem dX11_putWay_0 : decode cX11_putWay 0 = .ok (.iconst 1, 1) := dk_4 (by decide +kernel)
theorem dX11_putWay_1 : decode cX11_putWay 1 = .ok (.istore_n 3, 1) := dk_62 (by decide +kernel)
theorem dX11_putWay_2 : decode cX11_putWay 2 = .ok (.iconst 0, 1) := dk_3 (by decide +kernel)
theorem dX11_putWay_3 : decode cX11_putWay 3 = .ok (.istore 4, 2) := dk_54 (by decide +kernel)
theorem dX11_putWay_5 : decode cX11_putWay 5 = .ok (.iload 4, 2) := dk_21 (by decide +kernel)
theorem dX11_putWay_7 : decode cX11_putWay 7 = .ok (.aload_n 0, 1) := dk_42 (by decide +kernel)
theorem dX11_putWay_8 : decode cX11_putWay 8 = .ok (.getfield 23, 3) := dk_180 (by decide +kernel)
theorem dX11_putWay_11 : decode cX11_putWay 11 = .ok (.getfield 84, 3) := dk_180 (by decide +kernel)
theorem dX11_putWay_14 : decode cX11_putWay 14 = .ok (.if_icmp .ge 39, 3) := dk_162 (by decide +kernel)
theorem dX11_putWay_17 : decode cX11_putWay 17 = .ok (.aload_n 0, 1) := dk_42 (by decide +kernel)
theorem dX11_putWay_18 : decode cX11_putWay 18 = .ok (.getfield 23, 3) := dk_180 (by decide +kernel)
theorem dX11_putWay_21 : decode cX11_putWay 21 = .ok (.iload_n 1, 1) := dk_27 (by decide +kernel)
theorem dX11_putWay_22 : decode cX11_putWay 22 = .ok (.iload_n 2, 1) := dk_28 (by decide +kernel)
theorem dX11_putWay_23 : decode cX11_putWay 23 = .ok (.iload 4, 2) := dk_21 (by decide +kernel)
theorem dX11_putWay_25 : decode cX11_putWay 25 = .ok (.invokevirtual 119, 3) := dk_182 (by decide +kernel)
theorem dX11_putWay_28 : decode cX11_putWay 28 = .ok (.istore 5, 2) := dk_54 (by decide +kernel)
theorem dX11_putWay_30 : decode cX11_putWay 30 = .ok (.iload 5, 2) := dk_21 (by decide +kernel)
theorem dX11_putWay_32 : decode cX11_putWay 32 = .ok (.ifCond .eq 15, 3) := dk_153 (by decide +kernel)
theorem dX11_putWay_35 : decode cX11_putWay 35 = .ok (.aload_n 0, 1) := dk_42 (by decide +kernel)
theorem dX11_putWay_36 : decode cX11_putWay 36 = .ok (.iload 5, 2) := dk_21 (by decide +kernel)
theorem dX11_putWay_38 : decode cX11_putWay 38 = .ok (.iconst 1, 1) := dk_4 (by decide +kernel)
theorem dX11_putWay_39 : decode cX11_putWay 39 = .ok (.iload 4, 2) := dk_21 (by decide +kernel)
theorem dX11_putWay_41 : decode cX11_putWay 41 = .ok (.iload_n 3, 1) := dk_29 (by decide +kernel)
theorem dX11_putWay_42 : decode cX11_putWay 42 = .ok (.invokevirtual 303, 3) := dk_182 (by decide +kernel)
theorem dX11_putWay_45 : decode cX11_putWay 45 = .ok (.iconst 0, 1) := dk_3 (by decide +kernel)
theorem dX11_putWay_46 : decode cX11_putWay 46 = .ok (.istore_n 3, 1) := dk_62 (by decide +kernel)
theorem dX11_putWay_47 : decode cX11_putWay 47 = .ok (.iinc 4 1, 3) := dk_132 (by decide +kernel)
theorem dX11_putWay_50 : decode cX11_putWay 50 = .ok (.goto (-45), 3) := dk_167 (by decide +kernel)
theorem dX11_putWay_53 : decode cX11_putWay 53 = .ok (.iload_n 3, 1) := dk_29 (by decide +kernel)
theorem dX11_putWay_54 : decode cX11_putWay 54 = .ok (.ifCond .eq 10, 3) := dk_153 (by decide +kernel)
theorem dX11_putWay_57 : decode cX11_putWay 57 = .ok (.aload_n 0, 1) := dk_42 (by decide +kernel)
theorem dX11_putWay_58 : decode cX11_putWay 58 = .ok (.ldc_w 307, 3) := dk_19 (by decide +kernel)
theorem dX11_putWay_61 : decode cX11_putWay 61 = .ok (.invokevirtual 279, 3) := dk_182 (by decide +kernel)
theorem dX11_putWay_64 : decode cX11_putWay 64 = .ok (.aload_n 0, 1) := dk_42 (by decide +kernel)
theorem dX11_putWay_65 : decode cX11_putWay 65 = .ok (.getfield 23, 3) := dk_180 (by decide +kernel)
theorem dX11_putWay_68 : decode cX11_putWay 68 = .ok (.iload_n 1, 1) := dk_27 (by decide +kernel)
theorem dX11_putWay_69 : decode cX11_putWay 69 = .ok (.iload_n 2, 1) := dk_28 (by decide +kernel)
theorem dX11_putWay_70 : decode cX11_putWay 70 = .ok (.invokevirtual 116, 3) := dk_182 (by decide +kernel)
theorem dX11_putWay_73 : decode cX11_putWay 73 = .ok (.istore 4, 2) := dk_54 (by decide +kernel)
theorem dX11_putWay_75 : decode cX11_putWay 75 = .ok (.aload_n 0, 1) := dk_42 (by decide +kernel)
theorem dX11_putWay_76 : decode cX11_putWay 76 = .ok (.iload 4, 2) := dk_21 (by decide +kernel)
theorem dX11_putWay_78 : decode cX11_putWay 78 = .ok (.ifCond .ne 9, 3) := dk_154 (by decide +kernel)
theorem dX11_putWay_81 : decode cX11_putWay 81 = .ok (.ldc_w 309, 3) := dk_19 (by decide +kernel)
theorem dX11_putWay_84 : decode cX11_putWay 84 = .ok (.goto 18, 3) := dk_167 (by decide +kernel)
theorem dX11_putWay_87 : decode cX11_putWay 87 = .ok (.iload 4, 2) := dk_21 (by decide +kernel)
theorem dX11_putWay_89 : decode cX11_putWay 89 = .ok (.iconst 1, 1) := dk_4 (by decide +kernel)
theorem dX11_putWay_90 : decode cX11_putWay 90 = .ok (.if_icmp .ne 9, 3) := dk_160 (by decide +kernel)
theorem dX11_putWay_93 : decode cX11_putWay 93 = .ok (.ldc_w 311, 3) := dk_19 (by decide +kernel)
theorem dX11_putWay_96 : decode cX11_putWay 96 = .ok (.goto 6, 3) := dk_167 (by decide +kernel)
theorem dX11_putWay_99 : decode cX11_putWay 99 = .ok (.ldc_w 313, 3) := dk_19 (by decide +kernel)
theorem dX11_putWay_102 : decode cX11_putWay 102 = .ok (.invokevirtual 279, 3) := dk_182 (by decide +kernel)
theorem dX11_putWay_105 : decode cX11_putWay 105 = .ok (.aload_n 0, 1) := dk_42 (by decide +kernel)
theorem dX11_putWay_106 : decode cX11_putWay 106 = .ok (.aload_n 0, 1) := dk_42 (by decide +kernel)
theorem dX11_putWay_107 : decode cX11_putWay 107 = .ok (.getfield 23, 3) := dk_180 (by decide +kernel)
theorem dX11_putWay_110 : decode cX11_putWay 110 = .ok (.iload_n 1, 1) := dk_27 (by decide +kernel)
theorem dX11_putWay_111 : decode cX11_putWay 111 = .ok (.iload_n 2, 1) := dk_28 (by decide +kernel)
theorem dX11_putWay_112 : decode cX11_putWay 112 = .ok (.invokevirtual 112, 3) := dk_182 (by decide +kernel)
theorem dX11_putWay_115 : decode cX11_putWay 115 = .ok (.invokevirtual 283, 3) := dk_182 (by decide +kernel)
theorem dX11_putWay_118 : decode cX11_putWay 118 = .ok (.return_, 1) := dk_177 (by decide +kernel)
def wsMX11_putWay : List Cond := .code yX11_putWay cX11_putWay 6 none :: ([.fieldLink RX11 23 "OptimaWorks" "model" "LOptimaWorks$Model;", .fieldLink RX11 84 "OptimaWorks$Model" "variables" "I"] ++ wsX10 ++ wsX110 ++ (wsV RX11 119 RX1 yX1_number wsMX1_number) ++ (wsV RX11 303 RX11 yX11_putTimes wsMX11_putTimes) ++ (wsV RX11 279 RX11 yX11_putText wsMX11_putText) ++ (wsV RX11 116 RX1 yX1_sign wsMX1_sign) ++ (wsV RX11 112 RX1 yX1_rightSide wsMX1_rightSide) ++ (wsV RX11 283 RX11 yX11_putNumber wsMX11_putNumber))
theorem iwsMX11_putWay_in1 : ∀ w ∈ wsX10, w ∈ wsMX11_putWay := fun _ h => List.mem_cons_of_mem _ (List.mem_append_left _ (List.mem_append_left _ (List.mem_append_left _ (List.mem_append_left _ (List.mem_append_left _ (List.mem_append_left _ (List.mem_append_left _ (List.mem_append_right _ h))))))))
theorem iwsMX11_putWay_in11 : ∀ w ∈ wsX110, w ∈ wsMX11_putWay := fun _ h => List.mem_cons_of_mem _ (List.mem_append_left _ (List.mem_append_left _ (List.mem_append_left _ (List.mem_append_left _ (List.mem_append_left _ (List.mem_append_left _ (List.mem_append_right _ h)))))))
theorem gwsMX11_putWay_0 : GoodIn wsMX11_putWay (wsV RX11 119 RX1 yX1_number wsMX1_number) := goodIn_sub (fun _ h => List.mem_cons_of_mem _ (List.mem_append_left _ (List.mem_append_left _ (List.mem_append_left _ (List.mem_append_left _ (List.mem_append_left _ (List.mem_append_right _ h))))))) (gdV (by decide +kernel) gdwsMX1_number)
theorem gwsMX11_putWay_1 : GoodIn wsMX11_putWay (wsV RX11 303 RX11 yX11_putTimes wsMX11_putTimes) := goodIn_sub (fun _ h => List.mem_cons_of_mem _ (List.mem_append_left _ (List.mem_append_left _ (List.mem_append_left _ (List.mem_append_left _ (List.mem_append_right _ h)))))) (gdV (by decide +kernel) gdwsMX11_putTimes)
theorem gwsMX11_putWay_2 : GoodIn wsMX11_putWay (wsV RX11 279 RX11 yX11_putText wsMX11_putText) := goodIn_sub (fun _ h => List.mem_cons_of_mem _ (List.mem_append_left _ (List.mem_append_left _ (List.mem_append_left _ (List.mem_append_right _ h))))) (gdV (by decide +kernel) gdwsMX11_putText)
theorem gwsMX11_putWay_3 : GoodIn wsMX11_putWay (wsV RX11 116 RX1 yX1_sign wsMX1_sign) := goodIn_sub (fun _ h => List.mem_cons_of_mem _ (List.mem_append_left _ (List.mem_append_left _ (List.mem_append_right _ h)))) (gdV (by decide +kernel) gdwsMX1_sign)
theorem gwsMX11_putWay_4 : GoodIn wsMX11_putWay (wsV RX11 112 RX1 yX1_rightSide wsMX1_rightSide) := goodIn_sub (fun _ h => List.mem_cons_of_mem _ (List.mem_append_left _ (List.mem_append_right _ h))) (gdV (by decide +kernel) gdwsMX1_rightSide)
theorem gwsMX11_putWay_5 : GoodIn wsMX11_putWay (wsV RX11 283 RX11 yX11_putNumber wsMX11_putNumber) := goodIn_sub (fun _ h => List.mem_cons_of_mem _ (List.mem_append_right _ h)) (gdV (by decide +kernel) gdwsMX11_putNumber)
theorem gdwsMX11_putWay : wsMX11_putWay.all goodWord = true := gdC rfl (gdA (gdA (gdA (gdA (gdA (gdA (gdA (gdA (by decide +kernel : ([.fieldLink RX11 23 "OptimaWorks" "model" "LOptimaWorks$Model;", .fieldLink RX11 84 "OptimaWorks$Model" "variables" "I"] : List Cond).all goodWord = true) gdwsX10) gdwsX110) (gdV (by decide +kernel) gdwsMX1_number)) (gdV (by decide +kernel) gdwsMX11_putTimes)) (gdV (by decide +kernel) gdwsMX11_putText)) (gdV (by decide +kernel) gdwsMX1_sign)) (gdV (by decide +kernel) gdwsMX1_rightSide)) (gdV (by decide +kernel) gdwsMX11_putNumber))
theorem hm_m_X11_putWay_0 : (.fieldLink RX11 23 "OptimaWorks" "model" "LOptimaWorks$Model;" : Cond) ∈ wsMX11_putWay := by decide +kernel
set_option maxHeartbeats 4000000 in
set_option maxRecDepth 100000 in
/-- a way more -/
theorem m_X11_putWay (l : Launch) (hst : l.stackTraces = false) (dC : Nat → ClassId) (dI : Nat → Nat → Nat) (hX : Nat → Nat) (aX : Nat → Nat) (kX : Nat → ClassId) (hT : Nat → Nat) (hM : Nat → Nat) (fX_ready : Nat → Int32) (fX_sheet : Nat → Int32) (dX_sheet : Nat) (nX_sheet : Nat) (iX_sheetLength : Int32) (xX_reader : Value) (xX_solver : Value) (xX_prover : Value) (xX_values : Value) (xX_clauses : Value) (xX_nets : Value) (aM : Nat → Nat) (kM : Nat → ClassId) (iM_stands : Int32) (iM_variables : Int32) (iM_rows : Int32) (iM_goals : Int32) (iM_differents : Int32) (iM_cases : Int32) (fM_from : Nat → Int32) (fM_to : Nat → Int32) (fM_whole : Nat → Int32) (fM_ways : Nat → Int32) (iM_plainRows : Int32) (fM_plainRow : Nat → Int32) (fM_kept : Nat → Int32) (fM_goalOver : Nat → Int32) (fM_goalUnder : Nat → Int32) (fM_goalMax : Nat → Int32) (fM_different : Nat → Int32) (p1 : Int32) (p2 : Int32) (b_fX_sheet : ∀ q : Nat, (-128) ≤ (fX_sheet q).toInt ∧ (fX_sheet q).toInt ≤ 127) (b_nX_sheet : 64 ≤ nX_sheet ∧ nX_sheet ≤ 60000) (b_iX_sheetLength : 0 ≤ iX_sheetLength.toInt ∧ iX_sheetLength.toInt ≤ 30000) (b_shl : iX_sheetLength.toInt ≤ ((nX_sheet : Nat) : Int)) (b_iM_stands : 0 ≤ iM_stands.toInt ∧ iM_stands.toInt ≤ 1) (b_iM_variables : 0 ≤ iM_variables.toInt ∧ iM_variables.toInt ≤ 8) (b_iM_rows : 0 ≤ iM_rows.toInt ∧ iM_rows.toInt ≤ 12) (b_iM_goals : 0 ≤ iM_goals.toInt ∧ iM_goals.toInt ≤ 3) (b_iM_differents : 0 ≤ iM_differents.toInt ∧ iM_differents.toInt ≤ 8) (b_iM_cases : 0 ≤ iM_cases.toInt ∧ iM_cases.toInt ≤ 200000) (b_fM_ways : ∀ q : Nat, 0 ≤ (fM_ways q).toInt ∧ (fM_ways q).toInt ≤ 3) (b_iM_plainRows : 0 ≤ iM_plainRows.toInt ∧ iM_plainRows.toInt ≤ 12) (b_fM_plainRow : ∀ q : Nat, 0 ≤ (fM_plainRow q).toInt ∧ (fM_plainRow q).toInt ≤ 11) (b_pr : iM_plainRows.toInt ≤ iM_rows.toInt) (b_p1 : 0 ≤ p1.toInt ∧ p1.toInt ≤ 11) (b_p2 : 0 ≤ p2.toInt ∧ p2.toInt ≤ 2) (sz : Nat) : Met l yX11_putWay wsMX11_putWay ({ frames := 6, cells := 9376, slots := 660000, locals := 132 }) (va_Pc [.ref (hX 0), .int p1, .int p2] (fun U => U.heap.size = sz ∧ va_P (dC, dI) vwCl (WX hX aX kX hT hM fX_ready fX_sheet dX_sheet nX_sheet iX_sheetLength xX_reader xX_solver xX_prover xX_values xX_clauses xX_nets ++ (WM hM aM kM iM_stands iM_variables iM_rows iM_goals iM_differents iM_cases fM_from fM_to fM_whole fM_ways iM_plainRows fM_plainRow fM_kept fM_goalOver fM_goalUnder fM_goalMax fM_different)) U.heap ∧ va_K (dC, dI) vwCl (tX kX ++ (tM kM)) U ∧ va_D (fun _ => True) (WX hX aX kX hT hM fX_ready fX_sheet dX_sheet nX_sheet iX_sheetLength xX_reader xX_solver xX_prover xX_values xX_clauses xX_nets ++ (WM hM aM kM iM_stands iM_variables iM_rows iM_goals iM_differents iM_cases fM_from fM_to fM_whole fM_ways iM_plainRows fM_plainRow fM_kept fM_goalOver fM_goalUnder fM_goalMax fM_different)) ∧ CE (va_A (WX hX aX kX hT hM fX_ready fX_sheet dX_sheet nX_sheet iX_sheetLength xX_reader xX_solver xX_prover xX_values xX_clauses xX_nets ++ (WM hM aM kM iM_stands iM_variables iM_rows iM_goals iM_differents iM_cases fM_from fM_to fM_whole fM_ways iM_plainRows fM_plainRow fM_kept fM_goalOver fM_goalUnder fM_goalMax fM_different)) sz) U U.heap)) (va_Qv (fun (u : (Nat → Int32) × (Nat) × (Nat) × (Int32)) => (∀ q : Nat, (-128) ≤ ((u.1) q).toInt ∧ ((u.1) q).toInt ≤ 127) ∧ (64 ≤ (u.2.2.1) ∧ (u.2.2.1) ≤ 60000) ∧ (0 ≤ (u.2.2.2).toInt ∧ (u.2.2.2).toInt ≤ 30000) ∧ ((u.2.2.2).toInt ≤ (((u.2.2.1) : Nat) : Int)) ∧ (nX_sheet ≤ (u.2.2.1)) ∧ (iX_sheetLength.toInt ≤ (u.2.2.2).toInt)) (fun (u : (Nat → Int32) × (Nat) × (Nat) × (Int32)) t => va_P (dC, dI) vwCl (WX hX aX kX hT hM fX_ready (u.1) (u.2.1) (u.2.2.1) (u.2.2.2) xX_reader xX_solver xX_prover xX_values xX_clauses xX_nets ++ (WM hM aM kM iM_stands iM_variables iM_rows iM_goals iM_differents iM_cases fM_from fM_to fM_whole fM_ways iM_plainRows fM_plainRow fM_kept fM_goalOver fM_goalUnder fM_goalMax fM_different)) t.heap ∧ va_D (va_A (WX hX aX kX hT hM fX_ready fX_sheet dX_sheet nX_sheet iX_sheetLength xX_reader xX_solver xX_prover xX_values xX_clauses xX_nets ++ (WM hM aM kM iM_stands iM_variables iM_rows iM_goals iM_differents iM_cases fM_from fM_to fM_whole fM_ways iM_plainRows fM_plainRow fM_kept fM_goalOver fM_goalUnder fM_goalMax fM_different)) sz) (WX hX aX kX hT hM fX_ready (u.1) (u.2.1) (u.2.2.1) (u.2.2.2) xX_reader xX_solver xX_prover xX_values xX_clauses xX_nets ++ (WM hM aM kM iM_stands iM_variables iM_rows iM_goals iM_differents iM_cases fM_from fM_to fM_whole fM_ways iM_plainRows fM_plainRow fM_kept fM_goalOver fM_goalUnder fM_goalMax fM_different)) ∧ t.heap.size + (nX_sheet / 32) ≤ sz + ((u.2.2.1) / 32) ∧ nS sz t.heap + (2 * nX_sheet) ≤ (2 * (u.2.2.1))) (va_A (WX hX aX kX hT hM fX_ready fX_sheet dX_sheet nX_sheet iX_sheetLength xX_reader xX_solver xX_prover xX_values xX_clauses xX_nets ++ (WM hM aM kM iM_stands iM_variables iM_rows iM_goals iM_differents iM_cases fM_from fM_to fM_whole fM_ways iM_plainRows fM_plainRow fM_kept fM_goalOver fM_goalUnder fM_goalMax fM_different)) sz)) 9376 660000 (va_A (WX hX aX kX hT hM fX_ready fX_sheet dX_sheet nX_sheet iX_sheetLength xX_reader xX_solver xX_prover xX_values xX_clauses xX_nets ++ (WM hM aM kM iM_stands iM_variables iM_rows iM_goals iM_differents iM_cases fM_from fM_to fM_whole fM_ways iM_plainRows fM_plainRow fM_kept fM_goalOver fM_goalUnder fM_goalMax fM_different)) sz) := by
  refine Met.ofW (cc := cX11_putWay) (maxL := 6) (ret := none) (by decide) rfl ?_
  intro p e s m args below meth c s₁ B hml hv
  obtain ⟨rfl, hsz, hP, hK, hD0, hE⟩ := hv
  have hx := B.exec
  have hb := B.bytes
  have hr := B.returns
  have hts := atoms_spec (ws := wsMX11_putWay) B.pre
  have hown : s.vm.findClass RX11 = some m.cls := findClass_of_methodNamed B.named
  have hlocks := B.notSynchronized
  subst hsz
  have hD := hD0.self (sz := s.heap.size)
  generalize hAe : va_A (WX hX aX kX hT hM fX_ready fX_sheet dX_sheet nX_sheet iX_sheetLength xX_reader xX_solver xX_prover xX_values xX_clauses xX_nets ++ (WM hM aM kM iM_stands iM_variables iM_rows iM_goals iM_differents iM_cases fM_from fM_to fM_whole fM_ways iM_plainRows fM_plainRow fM_kept fM_goalOver fM_goalUnder fM_goalMax fM_different)) s.heap.size = A at hD hE ⊢
  have hA : ∀ q : Nat, s.heap.size ≤ q → A q := fun q h => by rw [← hAe]; exact Or.inr h
  have hS : va_S A s.heap s.heap [] := va_S.rf
  have hl := lv_entry ([.ref (hX 0), .int p1, .int p2]) (n := 6) (Nat.le_of_ble_eq_true rfl)
  rw [lg_entry_eq]
  generalize (lg_sl ([.ref (hX 0), .int p1, .int p2]) ++ List.replicate (6 - (lg_sl ([.ref (hX 0), .int p1, .int p2])).length) Slot.unset).toArray = ls at hl ⊢
  have hl : lv_has ls 6 [(0, .ref (hX 0)), (1, .int p1), (2, .int p2)] := hl
  refine W.widen (k := (nX_sheet / 32 - (nX_sheet / 32))) (n := (2 * nX_sheet - (2 * nX_sheet))) (Nat.zero_le _) (Nat.zero_le _) ?_
  refine lv_iconst (v := 1) hx hb dX11_putWay_0 (by decide) ?_
  refine lv_istore_n hx hb dX11_putWay_1 rfl hl (by decide) rfl (fun ls (hl : lv_has ls _ ([(3, .int 1), (0, .ref (hX 0)), (1, .int p1), (2, .int p2)])) => ?_)
  refine lv_iconst (v := 0) hx hb dX11_putWay_2 (by decide) ?_
  refine lv_istore hx hb dX11_putWay_3 hl (by decide) rfl (fun ls (hl : lv_has ls _ ([(4, .int 0), (3, .int 1), (0, .ref (hX 0)), (1, .int p1), (2, .int p2)])) => ?_)
  have hl : lv_has _ _ ([(4, .int 0), (3, .int 1), (0, .ref (hX 0)), (1, .int p1), (2, .int p2)]) := lv_sub hl [0, 1, 2, 3, 4] rfl
  refine (fun (loop : ∀ (n9 : Nat) (fX_sheet_x5 : Nat → Int32) (dX_sheet_x5 : Nat) (nX_sheet_x5 : Nat) (iX_sheetLength_x5 : Int32) (l4_x5 : Int32) (l3_x5 : Int32) (H : Heap) (locs : List Loc) (ls : Array Slot), (∀ q : Nat, (-128) ≤ (fX_sheet_x5 q).toInt ∧ (fX_sheet_x5 q).toInt ≤ 127) → (64 ≤ nX_sheet_x5 ∧ nX_sheet_x5 ≤ 60000) → (0 ≤ iX_sheetLength_x5.toInt ∧ iX_sheetLength_x5.toInt ≤ 30000) → (0 ≤ l4_x5.toInt ∧ l4_x5.toInt ≤ 8) → (0 ≤ l3_x5.toInt ∧ l3_x5.toInt ≤ 1) → (iX_sheetLength_x5.toInt ≤ ((nX_sheet_x5 : Nat) : Int)) → (iX_sheetLength.toInt ≤ iX_sheetLength_x5.toInt) → (nX_sheet ≤ nX_sheet_x5) → (8 - l4_x5.toInt < ((n9 : Nat) : Int)) → va_P (dC, dI) vwCl (WX hX aX kX hT hM fX_ready fX_sheet_x5 dX_sheet_x5 nX_sheet_x5 iX_sheetLength_x5 xX_reader xX_solver xX_prover xX_values xX_clauses xX_nets ++ (WM hM aM kM iM_stands iM_variables iM_rows iM_goals iM_differents iM_cases fM_from fM_to fM_whole fM_ways iM_plainRows fM_plainRow fM_kept fM_goalOver fM_goalUnder fM_goalMax fM_different)) H → va_D A (WX hX aX kX hT hM fX_ready fX_sheet_x5 dX_sheet_x5 nX_sheet_x5 iX_sheetLength_x5 xX_reader xX_solver xX_prover xX_values xX_clauses xX_nets ++ (WM hM aM kM iM_stands iM_variables iM_rows iM_goals iM_differents iM_cases fM_from fM_to fM_whole fM_ways iM_plainRows fM_plainRow fM_kept fM_goalOver fM_goalUnder fM_goalMax fM_different)) → va_S A s.heap H locs → lv_has ls 6 [(4, .int l4_x5), (3, .int l3_x5), (0, .ref (hX 0)), (1, .int p1), (2, .int p2)] → W p l e _ s m _ below meth c H locs (nX_sheet_x5 / 32 - (nX_sheet / 32)) (2 * nX_sheet_x5 - (2 * nX_sheet)) _ (F0 m 5 ls [])) => loop (9) fX_sheet dX_sheet nX_sheet iX_sheetLength 0 1 _ _ _ b_fX_sheet (by first | exact b_nX_sheet | with_reducible assumption | exact ⟨by omega, by omega⟩ | assumption) (b_iX_sheetLength) (show 0 ≤ (0 : Int32).toInt ∧ (0 : Int32).toInt ≤ 8 from by decide) (show 0 ≤ (1 : Int32).toInt ∧ (1 : Int32).toInt ≤ 1 from by decide) (by first | with_reducible assumption | omega | (rw [iI_t (by omega) (by omega)]; omega) | (have h7 : (0 : Int32).toInt = 0 := (by decide); omega)) (show iX_sheetLength.toInt ≤ iX_sheetLength.toInt from by omega) (show nX_sheet ≤ nX_sheet from by omega) ((by have e9 : (0 : Int32).toInt = 0 := (by decide : (0 : Int32).toInt = 0); omega)) hP hD hS hl) ?_
  intro n9
  induction n9 with
  | zero => intro fX_sheet_x5 dX_sheet_x5 nX_sheet_x5 iX_sheetLength_x5 l4_x5 l3_x5 H locs ls b_fX_sheet_x5 b_nX_sheet_x5 b_iX_sheetLength_x5 b_l4_x5 b_l3_x5 b_shl_x5 hlx hgm0_x5 hf9; exact False.elim (by omega)
  | succ n9 ihx5 =>
    intro fX_sheet_x5 dX_sheet_x5 nX_sheet_x5 iX_sheetLength_x5 l4_x5 l3_x5 H locs ls b_fX_sheet_x5 b_nX_sheet_x5 b_iX_sheetLength_x5 b_l4_x5 b_l3_x5 b_shl_x5 hlx hgm0_x5 hfx5 hP hD hS hl
    refine lv_iload hx hb dX11_putWay_5 (lv_at hl 0 rfl) ?_
    refine lv_aload_n hx hb dX11_putWay_7 rfl (lv_at hl 2 rfl) ?_
    refine va_get (D := (dC, dI)) (ci := 11) (v := .ref (hM 0)) (C := RX11) (T := TX11) (N := 11) hx hb hts iwsMX11_putWay_in11 hown hK hP 0 rfl rfl 2 (by decide) (hts _ hm_m_X11_putWay_0) (fun _ h9 => h9) rfl dX11_putWay_8 ?_
    refine va_get (D := (dC, dI)) (ci := 1) (v := .int iM_variables) (C := RX1) (T := TX1) (N := 17) hx hb hts iwsMX11_putWay_in1 hown hK hP 3 rfl rfl 1 (by decide) (hts (.fieldLink RX11 84 "OptimaWorks$Model" "variables" "I") (by decide +kernel)) (fun _ h9 => h9) rfl dX11_putWay_11 ?_
    refine lv_icmp_ge (tgt := 53) hx hb dX11_putWay_14 (by decide) (fun c_14 => ?_) (fun c_14 => ?_)
    · have t_14 : l4_x5.toInt ≥ iM_variables.toInt := toI_ge c_14 rfl rfl
      refine lv_iload_n hx hb dX11_putWay_53 rfl (lv_at hl 1 rfl) ?_
      refine W.known (fun hzk hnk => ?_)
      refine W.widen (k := 1875) (n := 120000) (by omega) (by omega) ?_
      refine W.cut (pc := 64) (fun H locs ls stk => ∃ (fX_sheet_j15 : Nat → Int32) (dX_sheet_j15 : Nat) (nX_sheet_j15 : Nat) (iX_sheetLength_j15 : Int32), (∀ q : Nat, (-128) ≤ (fX_sheet_j15 q).toInt ∧ (fX_sheet_j15 q).toInt ≤ 127) ∧ (64 ≤ nX_sheet_j15 ∧ nX_sheet_j15 ≤ 60000) ∧ (0 ≤ iX_sheetLength_j15.toInt ∧ iX_sheetLength_j15.toInt ≤ 30000) ∧ (iX_sheetLength_j15.toInt ≤ ((nX_sheet_j15 : Nat) : Int)) ∧ (iX_sheetLength.toInt ≤ iX_sheetLength_j15.toInt) ∧ (nX_sheet ≤ nX_sheet_j15) ∧ (H.size + (nX_sheet / 32) ≤ s.heap.size + (nX_sheet_j15 / 32) ∧ nS s.heap.size H + (2 * nX_sheet) ≤ (2 * nX_sheet_j15)) ∧  stk = [] ∧ va_P (dC, dI) vwCl (WX hX aX kX hT hM fX_ready fX_sheet_j15 dX_sheet_j15 nX_sheet_j15 iX_sheetLength_j15 xX_reader xX_solver xX_prover xX_values xX_clauses xX_nets ++ (WM hM aM kM iM_stands iM_variables iM_rows iM_goals iM_differents iM_cases fM_from fM_to fM_whole fM_ways iM_plainRows fM_plainRow fM_kept fM_goalOver fM_goalUnder fM_goalMax fM_different)) H ∧ va_D A (WX hX aX kX hT hM fX_ready fX_sheet_j15 dX_sheet_j15 nX_sheet_j15 iX_sheetLength_j15 xX_reader xX_solver xX_prover xX_values xX_clauses xX_nets ++ (WM hM aM kM iM_stands iM_variables iM_rows iM_goals iM_differents iM_cases fM_from fM_to fM_whole fM_ways iM_plainRows fM_plainRow fM_kept fM_goalOver fM_goalUnder fM_goalMax fM_different)) ∧ va_S A s.heap H locs ∧ lv_has ls 6 [(4, .int l4_x5), (3, .int l3_x5), (0, .ref (hX 0)), (1, .int p1), (2, .int p2)]) (fun join15 => ?_) ?_
      · refine W.tight (cells2 := (nX_sheet_x5 / 32 - (nX_sheet / 32))) (slots2 := (2 * nX_sheet_x5 - (2 * nX_sheet))) hzk hnk ?_
        refine lv_if_eq (tgt := 64) hx hb dX11_putWay_54 (by decide) (fun c_54 => ?_) (fun c_54 => ?_)
        · have t_54 : l3_x5.toInt = 0 := toI_eq c_54 rfl (by decide : (0 : Int32).toInt = 0)
          have hl : lv_has _ _ ([(4, .int l4_x5), (3, .int l3_x5), (0, .ref (hX 0)), (1, .int p1), (2, .int p2)]) := lv_sub hl [0, 1, 2, 3, 4] rfl
          refine W.known (fun hza hna => ?_)
          refine W.widen (k := 1875) (n := 120000) (by omega) (by omega) ?_
          exact join15 _ _ _ _ ⟨fX_sheet_x5, dX_sheet_x5, nX_sheet_x5, iX_sheetLength_x5, b_fX_sheet_x5, (by first | exact b_nX_sheet_x5 | with_reducible assumption | exact ⟨by omega, by omega⟩ | assumption), (b_iX_sheetLength_x5), (by first | with_reducible assumption | omega | (rw [iI_t (by omega) (by omega)]; omega) | (have h7 : (0 : Int32).toInt = 0 := (by decide); omega)), (show iX_sheetLength.toInt ≤ iX_sheetLength_x5.toInt from by omega), (show nX_sheet ≤ nX_sheet_x5 from by omega), ⟨by omega, by omega⟩, rfl, hP, hD, hS, hl⟩
        · have t_54 : ¬ l3_x5.toInt = 0 := toI_neq c_54 rfl (by decide : (0 : Int32).toInt = 0)
          refine lv_aload_n hx hb dX11_putWay_57 rfl (lv_at hl 2 rfl) ?_
          obtain ⟨qS307, hR307, hSS307⟩ := hE.2.2.2 8 _ rfl
          refine lv_ldcwS hx hb hown hR307 dX11_putWay_58 ?_
          refine W.known (fun hz0 hn0 => ?_)
          have hS0 := hS.1
          have p9 := cj_2_0 (WX hX aX kX hT hM fX_ready fX_sheet_x5 dX_sheet_x5 nX_sheet_x5 iX_sheetLength_x5 xX_reader xX_solver xX_prover xX_values xX_clauses xX_nets) (WM hM aM kM iM_stands iM_variables iM_rows iM_goals iM_differents iM_cases fM_from fM_to fM_whole fM_ways iM_plainRows fM_plainRow fM_kept fM_goalOver fM_goalUnder fM_goalMax fM_different)
          have hPc := hP.mem (fun q h => p9.mem_iff.mpr (List.mem_append_left _ h))
          have hDc := (hD.perm p9).left
          have hKc : va_K (dC, dI) vwCl (tX kX) _ := hK.sub [0, 1] rfl
          have hFc := freeG p9 hD hS hA
          refine va_callv (va_runV (As := [.ref qS307]) (rest := []) ⟨hx, hb, hml, hown, hts⟩ (Met.sV (m_X11_putText l dC dI hX aX kX hT hM fX_ready fX_sheet_x5 dX_sheet_x5 nX_sheet_x5 iX_sheetLength_x5 xX_reader xX_solver xX_prover xX_values xX_clauses xX_nets qS307 2 (fun j => ([32, 48] : List Int32).getD j 0) b_fX_sheet_x5 (by first | exact b_nX_sheet_x5 | with_reducible assumption | exact ⟨by omega, by omega⟩ | assumption) (b_iX_sheetLength_x5) (by first | with_reducible assumption | omega | (rw [iI_t (by omega) (by omega)]; omega) | (have h7 : (0 : Int32).toInt = 0 := (by decide); omega)) (by decide) H.size) H) (cwV 1 hts gwsMX11_putWay_2 rfl rfl rfl (by decide +kernel) ⟨by first | decide +kernel | (dsimp only [headSpec] <;> omega), by first | decide +kernel | (dsimp only [headSpec] <;> omega)⟩) ⟨fun a U g mk q => by obtain ⟨q0, qh, q1, qP, qK, qD, qE⟩ := q; exact ⟨q0, qh, q1, qP, va_K.moved (u := U) (U := U.calling g mk a) (Vm.Alike.refl U.vm) qK, qD, qE.same rfl⟩, va_recv hK hP (ci := 11) (q0 := 0) rfl rfl, fun U hU9 hW => ⟨rfl, hU9, by rw [hU9], by rw [hU9]; exact hPc, va_K.moved hW.alike hKc, hDc.weaken (fun _ _ _ _ => trivial), by rw [hU9]; exact (((hSS307 : (StrE qS307 2 (fun j => ([32, 48] : List Int32).getD j 0)) A s s.heap).kept hS.2.1).narrow (fun q h => hFc q h)).warm hW⟩⟩ rfl rfl hl.1 rfl (lv_room (Nat.le_of_ble_eq_true rfl)) dX11_putWay_61 ⟨by first | decide +kernel | (dsimp only [headSpec] <;> omega), by first | decide +kernel | (dsimp only [headSpec] <;> omega)⟩) hS (fun q _ h => hFc q h) hFc (fun u t9_ H locs ht hvm hw9 hB9 hz1 hk1 hS => ?_)
          revert u hw9 hB9
          refine fz_p4 ?_
          intro fX_sheet_40 dX_sheet_40 nX_sheet_40 iX_sheetLength_40 hw9 hB9
          try dsimp only at hw9 hB9
          revert hw9
          refine fz_a6 ?_
          intro b_fX_sheet_40 b_nX_sheet_40 b_iX_sheetLength_40 b_shl_40 f40_0 f40_1
          have hg1 := hB9.1.2.2.1
          rw [ht] at hg1
          have hg2 := hB9.1.2.2.2
          rw [ht] at hg2
          have hSz := hB9.2
          rw [ht] at hSz
          have p8 := cj_2_0 (WX hX aX kX hT hM fX_ready fX_sheet_40 dX_sheet_40 nX_sheet_40 iX_sheetLength_40 xX_reader xX_solver xX_prover xX_values xX_clauses xX_nets) (WM hM aM kM iM_stands iM_variables iM_rows iM_goals iM_differents iM_cases fM_from fM_to fM_whole fM_ways iM_plainRows fM_plainRow fM_kept fM_goalOver fM_goalUnder fM_goalMax fM_different)
          obtain ⟨hP, hD⟩ := frameG p9 p8 hP hD hk1 hFc (fz_P ht hB9.1.1) hB9.1.2.1
          have hz9 : H.size ≤ s.heap.size + (nX_sheet_40 / 32 - (nX_sheet / 32)) := by (try dsimp only at hg1); omega
          have hn9 : nS s.heap.size H ≤ (2 * nX_sheet_40 - (2 * nX_sheet)) := by rw [hSz.n hS0]; (try dsimp only at hg2); omega
          refine W.tight (cells2 := (nX_sheet_40 / 32 - (nX_sheet / 32))) (slots2 := (2 * nX_sheet_40 - (2 * nX_sheet))) hz9 hn9 ?_
          clear hz9 hn9 hz0 hn0 hS0 hSz hg1 hg2
          have hl : lv_has _ _ ([(4, .int l4_x5), (3, .int l3_x5), (0, .ref (hX 0)), (1, .int p1), (2, .int p2)]) := lv_sub hl [0, 1, 2, 3, 4] rfl
          refine W.known (fun hza hna => ?_)
          refine W.widen (k := 1875) (n := 120000) (by omega) (by omega) ?_
          exact join15 _ _ _ _ ⟨fX_sheet_40, dX_sheet_40, nX_sheet_40, iX_sheetLength_40, b_fX_sheet_40, (by first | exact b_nX_sheet_40 | with_reducible assumption | exact ⟨by omega, by omega⟩ | assumption), (b_iX_sheetLength_40), (by first | with_reducible assumption | omega | (rw [iI_t (by omega) (by omega)]; omega) | (have h7 : (0 : Int32).toInt = 0 := (by decide); omega)), (show iX_sheetLength.toInt ≤ iX_sheetLength_40.toInt from by omega), (show nX_sheet ≤ nX_sheet_40 from by omega), ⟨by omega, by omega⟩, rfl, hP, hD, hS, hl⟩
      · intro H locs ls stk
        refine fz_e4 ?_
        intro fX_sheet_j15 dX_sheet_j15 nX_sheet_j15 iX_sheetLength_j15
        refine fz_a12 ?_
        intro b_fX_sheet_j15 b_nX_sheet_j15 b_iX_sheetLength_j15 b_shl_j15 hjx hgm0_j15 hzn9_6 hst9_7 hP hD hS hl
        have hzj := hzn9_6.1
        have hnj := hzn9_6.2
        clear hzn9_6
        subst hst9_7
        refine W.tight (cells2 := (nX_sheet_j15 / 32 - (nX_sheet / 32))) (slots2 := (2 * nX_sheet_j15 - (2 * nX_sheet))) (tg1 hzj hS.1) (tg2 hnj) ?_
        refine lv_aload_n hx hb dX11_putWay_64 rfl (lv_at hl 2 rfl) ?_
        refine va_get (D := (dC, dI)) (ci := 11) (v := .ref (hM 0)) (C := RX11) (T := TX11) (N := 11) hx hb hts iwsMX11_putWay_in11 hown hK hP 0 rfl rfl 2 (by decide) (hts _ hm_m_X11_putWay_0) (fun _ h9 => h9) rfl dX11_putWay_65 ?_
        refine lv_iload_n hx hb dX11_putWay_68 rfl (lv_at hl 3 rfl) ?_
        refine lv_iload_n hx hb dX11_putWay_69 rfl (lv_at hl 4 rfl) ?_
        have p9 := cj_2_1 (WX hX aX kX hT hM fX_ready fX_sheet_j15 dX_sheet_j15 nX_sheet_j15 iX_sheetLength_j15 xX_reader xX_solver xX_prover xX_values xX_clauses xX_nets) (WM hM aM kM iM_stands iM_variables iM_rows iM_goals iM_differents iM_cases fM_from fM_to fM_whole fM_ways iM_plainRows fM_plainRow fM_kept fM_goalOver fM_goalUnder fM_goalMax fM_different)
        have hPc := hP.mem (fun q h => p9.mem_iff.mpr (List.mem_append_left _ h))
        have hDc := (hD.perm p9).left
        have hKc : va_K (dC, dI) vwCl (tM kM) _ := hK.sub [2, 3, 4, 5, 6, 7, 8, 9, 10, 11] rfl
        have hFc := freeG p9 hD hS hA
        refine va_calli (va_runV (As := [.int p1, .int p2]) (rest := []) ⟨hx, hb, hml, hown, hts⟩ (m_X1_sign l dC dI hM aM kM iM_stands iM_variables iM_rows iM_goals iM_differents iM_cases fM_from fM_to fM_whole fM_ways iM_plainRows fM_plainRow fM_kept fM_goalOver fM_goalUnder fM_goalMax fM_different p1 p2 (b_iM_stands) (b_iM_variables) (b_iM_rows) (b_iM_goals) (b_iM_differents) (b_iM_cases) b_fM_ways (b_iM_plainRows) b_fM_plainRow (by first | with_reducible assumption | omega | assumption) (b_p1) (b_p2) H.size) (cwV 2 hts gwsMX11_putWay_3 rfl rfl rfl (by decide +kernel) ⟨by first | decide +kernel | (dsimp only [headSpec] <;> omega), by first | decide +kernel | (dsimp only [headSpec] <;> omega)⟩) (fz_pre (va_recv hK hP (ci := 1) (q0 := 3) rfl rfl) hPc hKc hDc) rfl rfl hl.1 rfl (lv_room (Nat.le_of_ble_eq_true rfl)) dX11_putWay_70 ⟨by first | decide +kernel | (dsimp only [headSpec] <;> omega), by first | decide +kernel | (dsimp only [headSpec] <;> omega)⟩) hS (fun q _ h => hFc q h) hFc (fun r41 u t9_ H locs ht hvm hw9 hB9 hz1 hk1 hS => ?_)
        clear hw9
        have p8 := p9
        obtain ⟨hP, hD⟩ := frameG p9 p8 hP hD hk1 hFc (fz_P ht hB9.1) hB9.2
        refine lv_istore hx hb dX11_putWay_73 hl (by decide) rfl (fun ls (hl : lv_has ls _ ([(4, .int r41), (3, .int l3_x5), (0, .ref (hX 0)), (1, .int p1), (2, .int p2)])) => ?_)
        refine lv_aload_n hx hb dX11_putWay_75 rfl (lv_at hl 2 rfl) ?_
        refine lv_iload hx hb dX11_putWay_76 (lv_at hl 0 rfl) ?_
        refine lv_if_ne (tgt := 87) hx hb dX11_putWay_78 (by decide) (fun c_78 => ?_) (fun c_78 => ?_)
        · have t_78 : r41.toInt ≠ 0 := toI_ne c_78 rfl (by decide : (0 : Int32).toInt = 0)
          refine lv_iload hx hb dX11_putWay_87 (lv_at hl 0 rfl) ?_
          refine lv_iconst (v := 1) hx hb dX11_putWay_89 (by decide) ?_
          refine lv_icmp_ne (tgt := 99) hx hb dX11_putWay_90 (by decide) (fun c_90 => ?_) (fun c_90 => ?_)
          · have t_90 : r41.toInt ≠ 1 := toI_ne c_90 rfl (by decide : (1 : Int32).toInt = 1)
            obtain ⟨qS313, hR313, hSS313⟩ := hE.2.2.2 11 _ rfl
            refine lv_ldcwS hx hb hown hR313 dX11_putWay_99 ?_
            refine W.known (fun hz0 hn0 => ?_)
            have hS0 := hS.1
            have p9 := cj_2_0 (WX hX aX kX hT hM fX_ready fX_sheet_j15 dX_sheet_j15 nX_sheet_j15 iX_sheetLength_j15 xX_reader xX_solver xX_prover xX_values xX_clauses xX_nets) (WM hM aM kM iM_stands iM_variables iM_rows iM_goals iM_differents iM_cases fM_from fM_to fM_whole fM_ways iM_plainRows fM_plainRow fM_kept fM_goalOver fM_goalUnder fM_goalMax fM_different)
            have hPc := hP.mem (fun q h => p9.mem_iff.mpr (List.mem_append_left _ h))
            have hDc := (hD.perm p9).left
            have hKc : va_K (dC, dI) vwCl (tX kX) _ := hK.sub [0, 1] rfl
            have hFc := freeG p9 hD hS hA
            refine va_callv (va_runV (As := [.ref qS313]) (rest := []) ⟨hx, hb, hml, hown, hts⟩ (Met.sV (m_X11_putText l dC dI hX aX kX hT hM fX_ready fX_sheet_j15 dX_sheet_j15 nX_sheet_j15 iX_sheetLength_j15 xX_reader xX_solver xX_prover xX_values xX_clauses xX_nets qS313 3 (fun j => ([32, 61, 32] : List Int32).getD j 0) b_fX_sheet_j15 (by first | exact b_nX_sheet_j15 | with_reducible assumption | exact ⟨by omega, by omega⟩ | assumption) (b_iX_sheetLength_j15) (by first | with_reducible assumption | omega | (rw [iI_t (by omega) (by omega)]; omega) | (have h7 : (0 : Int32).toInt = 0 := (by decide); omega)) (by decide) H.size) H) (cwV 1 hts gwsMX11_putWay_2 rfl rfl rfl (by decide +kernel) ⟨by first | decide +kernel | (dsimp only [headSpec] <;> omega), by first | decide +kernel | (dsimp only [headSpec] <;> omega)⟩) ⟨fun a U g mk q => by obtain ⟨q0, qh, q1, qP, qK, qD, qE⟩ := q; exact ⟨q0, qh, q1, qP, va_K.moved (u := U) (U := U.calling g mk a) (Vm.Alike.refl U.vm) qK, qD, qE.same rfl⟩, va_recv hK hP (ci := 11) (q0 := 0) rfl rfl, fun U hU9 hW => ⟨rfl, hU9, by rw [hU9], by rw [hU9]; exact hPc, va_K.moved hW.alike hKc, hDc.weaken (fun _ _ _ _ => trivial), by rw [hU9]; exact (((hSS313 : (StrE qS313 3 (fun j => ([32, 61, 32] : List Int32).getD j 0)) A s s.heap).kept hS.2.1).narrow (fun q h => hFc q h)).warm hW⟩⟩ rfl rfl hl.1 rfl (lv_room (Nat.le_of_ble_eq_true rfl)) dX11_putWay_102 ⟨by first | decide +kernel | (dsimp only [headSpec] <;> omega), by first | decide +kernel | (dsimp only [headSpec] <;> omega)⟩) hS (fun q _ h => hFc q h) hFc (fun u t9_ H locs ht hvm hw9 hB9 hz1 hk1 hS => ?_)
            revert u hw9 hB9
            refine fz_p4 ?_
            intro fX_sheet_42 dX_sheet_42 nX_sheet_42 iX_sheetLength_42 hw9 hB9
            try dsimp only at hw9 hB9
            revert hw9
            refine fz_a6 ?_
            intro b_fX_sheet_42 b_nX_sheet_42 b_iX_sheetLength_42 b_shl_42 f42_0 f42_1
            have hg1 := hB9.1.2.2.1
            rw [ht] at hg1
            have hg2 := hB9.1.2.2.2
            rw [ht] at hg2
            have hSz := hB9.2
            rw [ht] at hSz
            have p8 := cj_2_0 (WX hX aX kX hT hM fX_ready fX_sheet_42 dX_sheet_42 nX_sheet_42 iX_sheetLength_42 xX_reader xX_solver xX_prover xX_values xX_clauses xX_nets) (WM hM aM kM iM_stands iM_variables iM_rows iM_goals iM_differents iM_cases fM_from fM_to fM_whole fM_ways iM_plainRows fM_plainRow fM_kept fM_goalOver fM_goalUnder fM_goalMax fM_different)
            obtain ⟨hP, hD⟩ := frameG p9 p8 hP hD hk1 hFc (fz_P ht hB9.1.1) hB9.1.2.1
            have hz9 : H.size ≤ s.heap.size + (nX_sheet_42 / 32 - (nX_sheet / 32)) := by (try dsimp only at hg1); omega
            have hn9 : nS s.heap.size H ≤ (2 * nX_sheet_42 - (2 * nX_sheet)) := by rw [hSz.n hS0]; (try dsimp only at hg2); omega
            refine W.tight (cells2 := (nX_sheet_42 / 32 - (nX_sheet / 32))) (slots2 := (2 * nX_sheet_42 - (2 * nX_sheet))) hz9 hn9 ?_
            clear hz9 hn9 hz0 hn0 hS0 hSz hg1 hg2
            refine lv_aload_n hx hb dX11_putWay_105 rfl (lv_at hl 2 rfl) ?_
            refine lv_aload_n hx hb dX11_putWay_106 rfl (lv_at hl 2 rfl) ?_
            refine va_get (D := (dC, dI)) (ci := 11) (v := .ref (hM 0)) (C := RX11) (T := TX11) (N := 11) hx hb hts iwsMX11_putWay_in11 hown hK hP 0 rfl rfl 2 (by decide) (hts _ hm_m_X11_putWay_0) (fun _ h9 => h9) rfl dX11_putWay_107 ?_
            refine lv_iload_n hx hb dX11_putWay_110 rfl (lv_at hl 3 rfl) ?_
            refine lv_iload_n hx hb dX11_putWay_111 rfl (lv_at hl 4 rfl) ?_
            have p9 := cj_2_1 (WX hX aX kX hT hM fX_ready fX_sheet_42 dX_sheet_42 nX_sheet_42 iX_sheetLength_42 xX_reader xX_solver xX_prover xX_values xX_clauses xX_nets) (WM hM aM kM iM_stands iM_variables iM_rows iM_goals iM_differents iM_cases fM_from fM_to fM_whole fM_ways iM_plainRows fM_plainRow fM_kept fM_goalOver fM_goalUnder fM_goalMax fM_different)
            have hPc := hP.mem (fun q h => p9.mem_iff.mpr (List.mem_append_left _ h))
            have hDc := (hD.perm p9).left
            have hKc : va_K (dC, dI) vwCl (tM kM) _ := hK.sub [2, 3, 4, 5, 6, 7, 8, 9, 10, 11] rfl
            have hFc := freeG p9 hD hS hA
            refine va_calli (va_runV (As := [.int p1, .int p2]) (rest := [.ref (hX 0)]) ⟨hx, hb, hml, hown, hts⟩ (m_X1_rightSide l dC dI hM aM kM iM_stands iM_variables iM_rows iM_goals iM_differents iM_cases fM_from fM_to fM_whole fM_ways iM_plainRows fM_plainRow fM_kept fM_goalOver fM_goalUnder fM_goalMax fM_different p1 p2 (b_iM_stands) (b_iM_variables) (b_iM_rows) (b_iM_goals) (b_iM_differents) (b_iM_cases) b_fM_ways (b_iM_plainRows) b_fM_plainRow (by first | with_reducible assumption | omega | assumption) (b_p1) (b_p2) H.size) (cwV 2 hts gwsMX11_putWay_4 rfl rfl rfl (by decide +kernel) ⟨by first | decide +kernel | (dsimp only [headSpec] <;> omega), by first | decide +kernel | (dsimp only [headSpec] <;> omega)⟩) (fz_pre (va_recv hK hP (ci := 1) (q0 := 3) rfl rfl) hPc hKc hDc) rfl rfl hl.1 rfl (lv_room (Nat.le_of_ble_eq_true rfl)) dX11_putWay_112 ⟨by first | decide +kernel | (dsimp only [headSpec] <;> omega), by first | decide +kernel | (dsimp only [headSpec] <;> omega)⟩) hS (fun q _ h => hFc q h) hFc (fun r43 u t9_ H locs ht hvm hw9 hB9 hz1 hk1 hS => ?_)
            clear hw9
            have p8 := p9
            obtain ⟨hP, hD⟩ := frameG p9 p8 hP hD hk1 hFc (fz_P ht hB9.1) hB9.2
            refine W.known (fun hz0 hn0 => ?_)
            have hS0 := hS.1
            have p9 := cj_2_0 (WX hX aX kX hT hM fX_ready fX_sheet_42 dX_sheet_42 nX_sheet_42 iX_sheetLength_42 xX_reader xX_solver xX_prover xX_values xX_clauses xX_nets) (WM hM aM kM iM_stands iM_variables iM_rows iM_goals iM_differents iM_cases fM_from fM_to fM_whole fM_ways iM_plainRows fM_plainRow fM_kept fM_goalOver fM_goalUnder fM_goalMax fM_different)
            have hPc := hP.mem (fun q h => p9.mem_iff.mpr (List.mem_append_left _ h))
            have hDc := (hD.perm p9).left
            have hKc : va_K (dC, dI) vwCl (tX kX) _ := hK.sub [0, 1] rfl
            have hFc := freeG p9 hD hS hA
            refine va_callv (va_runV (As := [.int r43]) (rest := []) ⟨hx, hb, hml, hown, hts⟩ (Met.sV (m_X11_putNumber l dC dI hX aX kX hT hM fX_ready fX_sheet_42 dX_sheet_42 nX_sheet_42 iX_sheetLength_42 xX_reader xX_solver xX_prover xX_values xX_clauses xX_nets r43 b_fX_sheet_42 (by first | exact b_nX_sheet_42 | with_reducible assumption | exact ⟨by omega, by omega⟩ | assumption) (b_iX_sheetLength_42) (by first | with_reducible assumption | omega | (rw [iI_t (by omega) (by omega)]; omega) | (have h7 : (0 : Int32).toInt = 0 := (by decide); omega)) H.size) H) (cwV 1 hts gwsMX11_putWay_5 rfl rfl rfl (by decide +kernel) ⟨by first | decide +kernel | (dsimp only [headSpec] <;> omega), by first | decide +kernel | (dsimp only [headSpec] <;> omega)⟩) ⟨fun a U g mk q => by obtain ⟨q0, qh, q1, qP, qK, qD⟩ := q; exact ⟨q0, qh, q1, qP, va_K.moved (u := U) (U := U.calling g mk a) (Vm.Alike.refl U.vm) qK, qD⟩, va_recv hK hP (ci := 11) (q0 := 0) rfl rfl, fun U hU9 hW => ⟨rfl, hU9, by rw [hU9], by rw [hU9]; exact hPc, va_K.moved hW.alike hKc, hDc.weaken (fun _ _ _ _ => trivial)⟩⟩ rfl rfl hl.1 rfl (lv_room (Nat.le_of_ble_eq_true rfl)) dX11_putWay_115 ⟨by first | decide +kernel | (dsimp only [headSpec] <;> omega), by first | decide +kernel | (dsimp only [headSpec] <;> omega)⟩) hS (fun q _ h => hFc q h) hFc (fun u t9_ H locs ht hvm hw9 hB9 hz1 hk1 hS => ?_)
            revert u hw9 hB9
            refine fz_p4 ?_
            intro fX_sheet_44 dX_sheet_44 nX_sheet_44 iX_sheetLength_44 hw9 hB9
            try dsimp only at hw9 hB9
            revert hw9
            refine fz_a6 ?_
            intro b_fX_sheet_44 b_nX_sheet_44 b_iX_sheetLength_44 b_shl_44 f44_0 f44_1
            have hg1 := hB9.1.2.2.1
            rw [ht] at hg1
            have hg2 := hB9.1.2.2.2
            rw [ht] at hg2
            have hSz := hB9.2
            rw [ht] at hSz
            have p8 := cj_2_0 (WX hX aX kX hT hM fX_ready fX_sheet_44 dX_sheet_44 nX_sheet_44 iX_sheetLength_44 xX_reader xX_solver xX_prover xX_values xX_clauses xX_nets) (WM hM aM kM iM_stands iM_variables iM_rows iM_goals iM_differents iM_cases fM_from fM_to fM_whole fM_ways iM_plainRows fM_plainRow fM_kept fM_goalOver fM_goalUnder fM_goalMax fM_different)
            obtain ⟨hP, hD⟩ := frameG p9 p8 hP hD hk1 hFc (fz_P ht hB9.1.1) hB9.1.2.1
            have hz9 : H.size ≤ s.heap.size + (nX_sheet_44 / 32 - (nX_sheet / 32)) := by (try dsimp only at hg1); omega
            have hn9 : nS s.heap.size H ≤ (2 * nX_sheet_44 - (2 * nX_sheet)) := by rw [hSz.n hS0]; (try dsimp only at hg2); omega
            refine W.tight (cells2 := (nX_sheet_44 / 32 - (nX_sheet / 32))) (slots2 := (2 * nX_sheet_44 - (2 * nX_sheet))) hz9 hn9 ?_
            clear hz9 hn9 hz0 hn0 hS0 hSz hg1 hg2
            refine W.known (fun hz9 hn9 => ?_)
            refine W.widen (k := 9376) (n := 660000) (by omega) (by omega) ?_
            exact W.vret hx hb hr (fun t9_ ht hW => ⟨⟨(fX_sheet_44, dX_sheet_44, nX_sheet_44, iX_sheetLength_44), rfl, ⟨b_fX_sheet_44, (by (try dsimp only); exact (by first | exact b_nX_sheet_44 | with_reducible assumption | exact ⟨by omega, by omega⟩ | assumption)), b_iX_sheetLength_44, (by (try dsimp only); exact (by first | with_reducible assumption | omega | (rw [iI_t (by omega) (by omega)]; omega) | (have h7 : (0 : Int32).toInt = 0 := (by decide); omega))), (by (try dsimp only); omega), (by (try dsimp only); first | omega | (rw [iI_t (by omega) (by omega)]; omega))⟩, by rw [ht]; exact hP, hD, by rw [ht]; (try dsimp only); omega, by rw [ht]; (try dsimp only); omega⟩, hS.F ht⟩) hS.2.2 dX11_putWay_118
          · have t_90 : r41.toInt = 1 := toI_nne c_90 rfl (by decide : (1 : Int32).toInt = 1)
            obtain ⟨qS311, hR311, hSS311⟩ := hE.2.2.2 10 _ rfl
            refine lv_ldcwS hx hb hown hR311 dX11_putWay_93 ?_
            refine lv_goto (tgt := 102) hx hb dX11_putWay_96 (by decide) ?_
            refine W.known (fun hz0 hn0 => ?_)
            have hS0 := hS.1
            have p9 := cj_2_0 (WX hX aX kX hT hM fX_ready fX_sheet_j15 dX_sheet_j15 nX_sheet_j15 iX_sheetLength_j15 xX_reader xX_solver xX_prover xX_values xX_clauses xX_nets) (WM hM aM kM iM_stands iM_variables iM_rows iM_goals iM_differents iM_cases fM_from fM_to fM_whole fM_ways iM_plainRows fM_plainRow fM_kept fM_goalOver fM_goalUnder fM_goalMax fM_different)
            have hPc := hP.mem (fun q h => p9.mem_iff.mpr (List.mem_append_left _ h))
            have hDc := (hD.perm p9).left
            have hKc : va_K (dC, dI) vwCl (tX kX) _ := hK.sub [0, 1] rfl
            have hFc := freeG p9 hD hS hA
            refine va_callv (va_runV (As := [.ref qS311]) (rest := []) ⟨hx, hb, hml, hown, hts⟩ (Met.sV (m_X11_putText l dC dI hX aX kX hT hM fX_ready fX_sheet_j15 dX_sheet_j15 nX_sheet_j15 iX_sheetLength_j15 xX_reader xX_solver xX_prover xX_values xX_clauses xX_nets qS311 4 (fun j => ([32, 62, 61, 32] : List Int32).getD j 0) b_fX_sheet_j15 (by first | exact b_nX_sheet_j15 | with_reducible assumption | exact ⟨by omega, by omega⟩ | assumption) (b_iX_sheetLength_j15) (by first | with_reducible assumption | omega | (rw [iI_t (by omega) (by omega)]; omega) | (have h7 : (0 : Int32).toInt = 0 := (by decide); omega)) (by decide) H.size) H) (cwV 1 hts gwsMX11_putWay_2 rfl rfl rfl (by decide +kernel) ⟨by first | decide +kernel | (dsimp only [headSpec] <;> omega), by first | decide +kernel | (dsimp only [headSpec] <;> omega)⟩) ⟨fun a U g mk q => by obtain ⟨q0, qh, q1, qP, qK, qD, qE⟩ := q; exact ⟨q0, qh, q1, qP, va_K.moved (u := U) (U := U.calling g mk a) (Vm.Alike.refl U.vm) qK, qD, qE.same rfl⟩, va_recv hK hP (ci := 11) (q0 := 0) rfl rfl, fun U hU9 hW => ⟨rfl, hU9, by rw [hU9], by rw [hU9]; exact hPc, va_K.moved hW.alike hKc, hDc.weaken (fun _ _ _ _ => trivial), by rw [hU9]; exact (((hSS311 : (StrE qS311 4 (fun j => ([32, 62, 61, 32] : List Int32).getD j 0)) A s s.heap).kept hS.2.1).narrow (fun q h => hFc q h)).warm hW⟩⟩ rfl rfl hl.1 rfl (lv_room (Nat.le_of_ble_eq_true rfl)) dX11_putWay_102 ⟨by first | decide +kernel | (dsimp only [headSpec] <;> omega), by first | decide +kernel | (dsimp only [headSpec] <;> omega)⟩) hS (fun q _ h => hFc q h) hFc (fun u t9_ H locs ht hvm hw9 hB9 hz1 hk1 hS => ?_)
            revert u hw9 hB9
            refine fz_p4 ?_
            intro fX_sheet_45 dX_sheet_45 nX_sheet_45 iX_sheetLength_45 hw9 hB9
            try dsimp only at hw9 hB9
            revert hw9
            refine fz_a6 ?_
            intro b_fX_sheet_45 b_nX_sheet_45 b_iX_sheetLength_45 b_shl_45 f45_0 f45_1
            have hg1 := hB9.1.2.2.1
            rw [ht] at hg1
            have hg2 := hB9.1.2.2.2
            rw [ht] at hg2
            have hSz := hB9.2
            rw [ht] at hSz
            have p8 := cj_2_0 (WX hX aX kX hT hM fX_ready fX_sheet_45 dX_sheet_45 nX_sheet_45 iX_sheetLength_45 xX_reader xX_solver xX_prover xX_values xX_clauses xX_nets) (WM hM aM kM iM_stands iM_variables iM_rows iM_goals iM_differents iM_cases fM_from fM_to fM_whole fM_ways iM_plainRows fM_plainRow fM_kept fM_goalOver fM_goalUnder fM_goalMax fM_different)
            obtain ⟨hP, hD⟩ := frameG p9 p8 hP hD hk1 hFc (fz_P ht hB9.1.1) hB9.1.2.1
            have hz9 : H.size ≤ s.heap.size + (nX_sheet_45 / 32 - (nX_sheet / 32)) := by (try dsimp only at hg1); omega
            have hn9 : nS s.heap.size H ≤ (2 * nX_sheet_45 - (2 * nX_sheet)) := by rw [hSz.n hS0]; (try dsimp only at hg2); omega
            refine W.tight (cells2 := (nX_sheet_45 / 32 - (nX_sheet / 32))) (slots2 := (2 * nX_sheet_45 - (2 * nX_sheet))) hz9 hn9 ?_
            clear hz9 hn9 hz0 hn0 hS0 hSz hg1 hg2
            refine lv_aload_n hx hb dX11_putWay_105 rfl (lv_at hl 2 rfl) ?_
            refine lv_aload_n hx hb dX11_putWay_106 rfl (lv_at hl 2 rfl) ?_
            refine va_get (D := (dC, dI)) (ci := 11) (v := .ref (hM 0)) (C := RX11) (T := TX11) (N := 11) hx hb hts iwsMX11_putWay_in11 hown hK hP 0 rfl rfl 2 (by decide) (hts _ hm_m_X11_putWay_0) (fun _ h9 => h9) rfl dX11_putWay_107 ?_
            refine lv_iload_n hx hb dX11_putWay_110 rfl (lv_at hl 3 rfl) ?_
            refine lv_iload_n hx hb dX11_putWay_111 rfl (lv_at hl 4 rfl) ?_
            have p9 := cj_2_1 (WX hX aX kX hT hM fX_ready fX_sheet_45 dX_sheet_45 nX_sheet_45 iX_sheetLength_45 xX_reader xX_solver xX_prover xX_values xX_clauses xX_nets) (WM hM aM kM iM_stands iM_variables iM_rows iM_goals iM_differents iM_cases fM_from fM_to fM_whole fM_ways iM_plainRows fM_plainRow fM_kept fM_goalOver fM_goalUnder fM_goalMax fM_different)
            have hPc := hP.mem (fun q h => p9.mem_iff.mpr (List.mem_append_left _ h))
            have hDc := (hD.perm p9).left
            have hKc : va_K (dC, dI) vwCl (tM kM) _ := hK.sub [2, 3, 4, 5, 6, 7, 8, 9, 10, 11] rfl
            have hFc := freeG p9 hD hS hA
            refine va_calli (va_runV (As := [.int p1, .int p2]) (rest := [.ref (hX 0)]) ⟨hx, hb, hml, hown, hts⟩ (m_X1_rightSide l dC dI hM aM kM iM_stands iM_variables iM_rows iM_goals iM_differents iM_cases fM_from fM_to fM_whole fM_ways iM_plainRows fM_plainRow fM_kept fM_goalOver fM_goalUnder fM_goalMax fM_different p1 p2 (b_iM_stands) (b_iM_variables) (b_iM_rows) (b_iM_goals) (b_iM_differents) (b_iM_cases) b_fM_ways (b_iM_plainRows) b_fM_plainRow (by first | with_reducible assumption | omega | assumption) (b_p1) (b_p2) H.size) (cwV 2 hts gwsMX11_putWay_4 rfl rfl rfl (by decide +kernel) ⟨by first | decide +kernel | (dsimp only [headSpec] <;> omega), by first | decide +kernel | (dsimp only [headSpec] <;> omega)⟩) (fz_pre (va_recv hK hP (ci := 1) (q0 := 3) rfl rfl) hPc hKc hDc) rfl rfl hl.1 rfl (lv_room (Nat.le_of_ble_eq_true rfl)) dX11_putWay_112 ⟨by first | decide +kernel | (dsimp only [headSpec] <;> omega), by first | decide +kernel | (dsimp only [headSpec] <;> omega)⟩) hS (fun q _ h => hFc q h) hFc (fun r46 u t9_ H locs ht hvm hw9 hB9 hz1 hk1 hS => ?_)
            clear hw9
            have p8 := p9
            obtain ⟨hP, hD⟩ := frameG p9 p8 hP hD hk1 hFc (fz_P ht hB9.1) hB9.2
            refine W.known (fun hz0 hn0 => ?_)
            have hS0 := hS.1
            have p9 := cj_2_0 (WX hX aX kX hT hM fX_ready fX_sheet_45 dX_sheet_45 nX_sheet_45 iX_sheetLength_45 xX_reader xX_solver xX_prover xX_values xX_clauses xX_nets) (WM hM aM kM iM_stands iM_variables iM_rows iM_goals iM_differents iM_cases fM_from fM_to fM_whole fM_ways iM_plainRows fM_plainRow fM_kept fM_goalOver fM_goalUnder fM_goalMax fM_different)
            have hPc := hP.mem (fun q h => p9.mem_iff.mpr (List.mem_append_left _ h))
            have hDc := (hD.perm p9).left
            have hKc : va_K (dC, dI) vwCl (tX kX) _ := hK.sub [0, 1] rfl
            have hFc := freeG p9 hD hS hA
            refine va_callv (va_runV (As := [.int r46]) (rest := []) ⟨hx, hb, hml, hown, hts⟩ (Met.sV (m_X11_putNumber l dC dI hX aX kX hT hM fX_ready fX_sheet_45 dX_sheet_45 nX_sheet_45 iX_sheetLength_45 xX_reader xX_solver xX_prover xX_values xX_clauses xX_nets r46 b_fX_sheet_45 (by first | exact b_nX_sheet_45 | with_reducible assumption | exact ⟨by omega, by omega⟩ | assumption) (b_iX_sheetLength_45) (by first | with_reducible assumption | omega | (rw [iI_t (by omega) (by omega)]; omega) | (have h7 : (0 : Int32).toInt = 0 := (by decide); omega)) H.size) H) (cwV 1 hts gwsMX11_putWay_5 rfl rfl rfl (by decide +kernel) ⟨by first | decide +kernel | (dsimp only [headSpec] <;> omega), by first | decide +kernel | (dsimp only [headSpec] <;> omega)⟩) ⟨fun a U g mk q => by obtain ⟨q0, qh, q1, qP, qK, qD⟩ := q; exact ⟨q0, qh, q1, qP, va_K.moved (u := U) (U := U.calling g mk a) (Vm.Alike.refl U.vm) qK, qD⟩, va_recv hK hP (ci := 11) (q0 := 0) rfl rfl, fun U hU9 hW => ⟨rfl, hU9, by rw [hU9], by rw [hU9]; exact hPc, va_K.moved hW.alike hKc, hDc.weaken (fun _ _ _ _ => trivial)⟩⟩ rfl rfl hl.1 rfl (lv_room (Nat.le_of_ble_eq_true rfl)) dX11_putWay_115 ⟨by first | decide +kernel | (dsimp only [headSpec] <;> omega), by first | decide +kernel | (dsimp only [headSpec] <;> omega)⟩) hS (fun q _ h => hFc q h) hFc (fun u t9_ H locs ht hvm hw9 hB9 hz1 hk1 hS => ?_)
            revert u hw9 hB9
            refine fz_p4 ?_
            intro fX_sheet_47 dX_sheet_47 nX_sheet_47 iX_sheetLength_47 hw9 hB9
            try dsimp only at hw9 hB9
            revert hw9
            refine fz_a6 ?_
            intro b_fX_sheet_47 b_nX_sheet_47 b_iX_sheetLength_47 b_shl_47 f47_0 f47_1
            have hg1 := hB9.1.2.2.1
            rw [ht] at hg1
            have hg2 := hB9.1.2.2.2
            rw [ht] at hg2
            have hSz := hB9.2
            rw [ht] at hSz
            have p8 := cj_2_0 (WX hX aX kX hT hM fX_ready fX_sheet_47 dX_sheet_47 nX_sheet_47 iX_sheetLength_47 xX_reader xX_solver xX_prover xX_values xX_clauses xX_nets) (WM hM aM kM iM_stands iM_variables iM_rows iM_goals iM_differents iM_cases fM_from fM_to fM_whole fM_ways iM_plainRows fM_plainRow fM_kept fM_goalOver fM_goalUnder fM_goalMax fM_different)
            obtain ⟨hP, hD⟩ := frameG p9 p8 hP hD hk1 hFc (fz_P ht hB9.1.1) hB9.1.2.1
            have hz9 : H.size ≤ s.heap.size + (nX_sheet_47 / 32 - (nX_sheet / 32)) := by (try dsimp only at hg1); omega
            have hn9 : nS s.heap.size H ≤ (2 * nX_sheet_47 - (2 * nX_sheet)) := by rw [hSz.n hS0]; (try dsimp only at hg2); omega
            refine W.tight (cells2 := (nX_sheet_47 / 32 - (nX_sheet / 32))) (slots2 := (2 * nX_sheet_47 - (2 * nX_sheet))) hz9 hn9 ?_
            clear hz9 hn9 hz0 hn0 hS0 hSz hg1 hg2
            refine W.known (fun hz9 hn9 => ?_)
            refine W.widen (k := 9376) (n := 660000) (by omega) (by omega) ?_
            exact W.vret hx hb hr (fun t9_ ht hW => ⟨⟨(fX_sheet_47, dX_sheet_47, nX_sheet_47, iX_sheetLength_47), rfl, ⟨b_fX_sheet_47, (by (try dsimp only); exact (by first | exact b_nX_sheet_47 | with_reducible assumption | exact ⟨by omega, by omega⟩ | assumption)), b_iX_sheetLength_47, (by (try dsimp only); exact (by first | with_reducible assumption | omega | (rw [iI_t (by omega) (by omega)]; omega) | (have h7 : (0 : Int32).toInt = 0 := (by decide); omega))), (by (try dsimp only); omega), (by (try dsimp only); first | omega | (rw [iI_t (by omega) (by omega)]; omega))⟩, by rw [ht]; exact hP, hD, by rw [ht]; (try dsimp only); omega, by rw [ht]; (try dsimp only); omega⟩, hS.F ht⟩) hS.2.2 dX11_putWay_118
        · have t_78 : r41.toInt = 0 := toI_nne c_78 rfl (by decide : (0 : Int32).toInt = 0)
          obtain ⟨qS309, hR309, hSS309⟩ := hE.2.2.2 9 _ rfl
          refine lv_ldcwS hx hb hown hR309 dX11_putWay_81 ?_
          refine lv_goto (tgt := 102) hx hb dX11_putWay_84 (by decide) ?_
          refine W.known (fun hz0 hn0 => ?_)
          have hS0 := hS.1
          have p9 := cj_2_0 (WX hX aX kX hT hM fX_ready fX_sheet_j15 dX_sheet_j15 nX_sheet_j15 iX_sheetLength_j15 xX_reader xX_solver xX_prover xX_values xX_clauses xX_nets) (WM hM aM kM iM_stands iM_variables iM_rows iM_goals iM_differents iM_cases fM_from fM_to fM_whole fM_ways iM_plainRows fM_plainRow fM_kept fM_goalOver fM_goalUnder fM_goalMax fM_different)
          have hPc := hP.mem (fun q h => p9.mem_iff.mpr (List.mem_append_left _ h))
          have hDc := (hD.perm p9).left
          have hKc : va_K (dC, dI) vwCl (tX kX) _ := hK.sub [0, 1] rfl
          have hFc := freeG p9 hD hS hA
          refine va_callv (va_runV (As := [.ref qS309]) (rest := []) ⟨hx, hb, hml, hown, hts⟩ (Met.sV (m_X11_putText l dC dI hX aX kX hT hM fX_ready fX_sheet_j15 dX_sheet_j15 nX_sheet_j15 iX_sheetLength_j15 xX_reader xX_solver xX_prover xX_values xX_clauses xX_nets qS309 4 (fun j => ([32, 60, 61, 32] : List Int32).getD j 0) b_fX_sheet_j15 (by first | exact b_nX_sheet_j15 | with_reducible assumption | exact ⟨by omega, by omega⟩ | assumption) (b_iX_sheetLength_j15) (by first | with_reducible assumption | omega | (rw [iI_t (by omega) (by omega)]; omega) | (have h7 : (0 : Int32).toInt = 0 := (by decide); omega)) (by decide) H.size) H) (cwV 1 hts gwsMX11_putWay_2 rfl rfl rfl (by decide +kernel) ⟨by first | decide +kernel | (dsimp only [headSpec] <;> omega), by first | decide +kernel | (dsimp only [headSpec] <;> omega)⟩) ⟨fun a U g mk q => by obtain ⟨q0, qh, q1, qP, qK, qD, qE⟩ := q; exact ⟨q0, qh, q1, qP, va_K.moved (u := U) (U := U.calling g mk a) (Vm.Alike.refl U.vm) qK, qD, qE.same rfl⟩, va_recv hK hP (ci := 11) (q0 := 0) rfl rfl, fun U hU9 hW => ⟨rfl, hU9, by rw [hU9], by rw [hU9]; exact hPc, va_K.moved hW.alike hKc, hDc.weaken (fun _ _ _ _ => trivial), by rw [hU9]; exact (((hSS309 : (StrE qS309 4 (fun j => ([32, 60, 61, 32] : List Int32).getD j 0)) A s s.heap).kept hS.2.1).narrow (fun q h => hFc q h)).warm hW⟩⟩ rfl rfl hl.1 rfl (lv_room (Nat.le_of_ble_eq_true rfl)) dX11_putWay_102 ⟨by first | decide +kernel | (dsimp only [headSpec] <;> omega), by first | decide +kernel | (dsimp only [headSpec] <;> omega)⟩) hS (fun q _ h => hFc q h) hFc (fun u t9_ H locs ht hvm hw9 hB9 hz1 hk1 hS => ?_)
          revert u hw9 hB9
          refine fz_p4 ?_
          intro fX_sheet_48 dX_sheet_48 nX_sheet_48 iX_sheetLength_48 hw9 hB9
          try dsimp only at hw9 hB9
          revert hw9
          refine fz_a6 ?_
          intro b_fX_sheet_48 b_nX_sheet_48 b_iX_sheetLength_48 b_shl_48 f48_0 f48_1
          have hg1 := hB9.1.2.2.1
          rw [ht] at hg1
          have hg2 := hB9.1.2.2.2
          rw [ht] at hg2
          have hSz := hB9.2
          rw [ht] at hSz
          have p8 := cj_2_0 (WX hX aX kX hT hM fX_ready fX_sheet_48 dX_sheet_48 nX_sheet_48 iX_sheetLength_48 xX_reader xX_solver xX_prover xX_values xX_clauses xX_nets) (WM hM aM kM iM_stands iM_variables iM_rows iM_goals iM_differents iM_cases fM_from fM_to fM_whole fM_ways iM_plainRows fM_plainRow fM_kept fM_goalOver fM_goalUnder fM_goalMax fM_different)
          obtain ⟨hP, hD⟩ := frameG p9 p8 hP hD hk1 hFc (fz_P ht hB9.1.1) hB9.1.2.1
          have hz9 : H.size ≤ s.heap.size + (nX_sheet_48 / 32 - (nX_sheet / 32)) := by (try dsimp only at hg1); omega
          have hn9 : nS s.heap.size H ≤ (2 * nX_sheet_48 - (2 * nX_sheet)) := by rw [hSz.n hS0]; (try dsimp only at hg2); omega
          refine W.tight (cells2 := (nX_sheet_48 / 32 - (nX_sheet / 32))) (slots2 := (2 * nX_sheet_48 - (2 * nX_sheet))) hz9 hn9 ?_
          clear hz9 hn9 hz0 hn0 hS0 hSz hg1 hg2
          refine lv_aload_n hx hb dX11_putWay_105 rfl (lv_at hl 2 rfl) ?_
          refine lv_aload_n hx hb dX11_putWay_106 rfl (lv_at hl 2 rfl) ?_
          refine va_get (D := (dC, dI)) (ci := 11) (v := .ref (hM 0)) (C := RX11) (T := TX11) (N := 11) hx hb hts iwsMX11_putWay_in11 hown hK hP 0 rfl rfl 2 (by decide) (hts _ hm_m_X11_putWay_0) (fun _ h9 => h9) rfl dX11_putWay_107 ?_
          refine lv_iload_n hx hb dX11_putWay_110 rfl (lv_at hl 3 rfl) ?_
          refine lv_iload_n hx hb dX11_putWay_111 rfl (lv_at hl 4 rfl) ?_
          have p9 := cj_2_1 (WX hX aX kX hT hM fX_ready fX_sheet_48 dX_sheet_48 nX_sheet_48 iX_sheetLength_48 xX_reader xX_solver xX_prover xX_values xX_clauses xX_nets) (WM hM aM kM iM_stands iM_variables iM_rows iM_goals iM_differents iM_cases fM_from fM_to fM_whole fM_ways iM_plainRows fM_plainRow fM_kept fM_goalOver fM_goalUnder fM_goalMax fM_different)
          have hPc := hP.mem (fun q h => p9.mem_iff.mpr (List.mem_append_left _ h))
          have hDc := (hD.perm p9).left
          have hKc : va_K (dC, dI) vwCl (tM kM) _ := hK.sub [2, 3, 4, 5, 6, 7, 8, 9, 10, 11] rfl
          have hFc := freeG p9 hD hS hA
          refine va_calli (va_runV (As := [.int p1, .int p2]) (rest := [.ref (hX 0)]) ⟨hx, hb, hml, hown, hts⟩ (m_X1_rightSide l dC dI hM aM kM iM_stands iM_variables iM_rows iM_goals iM_differents iM_cases fM_from fM_to fM_whole fM_ways iM_plainRows fM_plainRow fM_kept fM_goalOver fM_goalUnder fM_goalMax fM_different p1 p2 (b_iM_stands) (b_iM_variables) (b_iM_rows) (b_iM_goals) (b_iM_differents) (b_iM_cases) b_fM_ways (b_iM_plainRows) b_fM_plainRow (by first | with_reducible assumption | omega | assumption) (b_p1) (b_p2) H.size) (cwV 2 hts gwsMX11_putWay_4 rfl rfl rfl (by decide +kernel) ⟨by first | decide +kernel | (dsimp only [headSpec] <;> omega), by first | decide +kernel | (dsimp only [headSpec] <;> omega)⟩) (fz_pre (va_recv hK hP (ci := 1) (q0 := 3) rfl rfl) hPc hKc hDc) rfl rfl hl.1 rfl (lv_room (Nat.le_of_ble_eq_true rfl)) dX11_putWay_112 ⟨by first | decide +kernel | (dsimp only [headSpec] <;> omega), by first | decide +kernel | (dsimp only [headSpec] <;> omega)⟩) hS (fun q _ h => hFc q h) hFc (fun r49 u t9_ H locs ht hvm hw9 hB9 hz1 hk1 hS => ?_)
          clear hw9
          have p8 := p9
          obtain ⟨hP, hD⟩ := frameG p9 p8 hP hD hk1 hFc (fz_P ht hB9.1) hB9.2
          refine W.known (fun hz0 hn0 => ?_)
          have hS0 := hS.1
          have p9 := cj_2_0 (WX hX aX kX hT hM fX_ready fX_sheet_48 dX_sheet_48 nX_sheet_48 iX_sheetLength_48 xX_reader xX_solver xX_prover xX_values xX_clauses xX_nets) (WM hM aM kM iM_stands iM_variables iM_rows iM_goals iM_differents iM_cases fM_from fM_to fM_whole fM_ways iM_plainRows fM_plainRow fM_kept fM_goalOver fM_goalUnder fM_goalMax fM_different)
          have hPc := hP.mem (fun q h => p9.mem_iff.mpr (List.mem_append_left _ h))
          have hDc := (hD.perm p9).left
          have hKc : va_K (dC, dI) vwCl (tX kX) _ := hK.sub [0, 1] rfl
          have hFc := freeG p9 hD hS hA
          refine va_callv (va_runV (As := [.int r49]) (rest := []) ⟨hx, hb, hml, hown, hts⟩ (Met.sV (m_X11_putNumber l dC dI hX aX kX hT hM fX_ready fX_sheet_48 dX_sheet_48 nX_sheet_48 iX_sheetLength_48 xX_reader xX_solver xX_prover xX_values xX_clauses xX_nets r49 b_fX_sheet_48 (by first | exact b_nX_sheet_48 | with_reducible assumption | exact ⟨by omega, by omega⟩ | assumption) (b_iX_sheetLength_48) (by first | with_reducible assumption | omega | (rw [iI_t (by omega) (by omega)]; omega) | (have h7 : (0 : Int32).toInt = 0 := (by decide); omega)) H.size) H) (cwV 1 hts gwsMX11_putWay_5 rfl rfl rfl (by decide +kernel) ⟨by first | decide +kernel | (dsimp only [headSpec] <;> omega), by first | decide +kernel | (dsimp only [headSpec] <;> omega)⟩) ⟨fun a U g mk q => by obtain ⟨q0, qh, q1, qP, qK, qD⟩ := q; exact ⟨q0, qh, q1, qP, va_K.moved (u := U) (U := U.calling g mk a) (Vm.Alike.refl U.vm) qK, qD⟩, va_recv hK hP (ci := 11) (q0 := 0) rfl rfl, fun U hU9 hW => ⟨rfl, hU9, by rw [hU9], by rw [hU9]; exact hPc, va_K.moved hW.alike hKc, hDc.weaken (fun _ _ _ _ => trivial)⟩⟩ rfl rfl hl.1 rfl (lv_room (Nat.le_of_ble_eq_true rfl)) dX11_putWay_115 ⟨by first | decide +kernel | (dsimp only [headSpec] <;> omega), by first | decide +kernel | (dsimp only [headSpec] <;> omega)⟩) hS (fun q _ h => hFc q h) hFc (fun u t9_ H locs ht hvm hw9 hB9 hz1 hk1 hS => ?_)
          revert u hw9 hB9
          refine fz_p4 ?_
          intro fX_sheet_50 dX_sheet_50 nX_sheet_50 iX_sheetLength_50 hw9 hB9
          try dsimp only at hw9 hB9
          revert hw9
          refine fz_a6 ?_
          intro b_fX_sheet_50 b_nX_sheet_50 b_iX_sheetLength_50 b_shl_50 f50_0 f50_1
          have hg1 := hB9.1.2.2.1
          rw [ht] at hg1
          have hg2 := hB9.1.2.2.2
          rw [ht] at hg2
          have hSz := hB9.2
          rw [ht] at hSz
          have p8 := cj_2_0 (WX hX aX kX hT hM fX_ready fX_sheet_50 dX_sheet_50 nX_sheet_50 iX_sheetLength_50 xX_reader xX_solver xX_prover xX_values xX_clauses xX_nets) (WM hM aM kM iM_stands iM_variables iM_rows iM_goals iM_differents iM_cases fM_from fM_to fM_whole fM_ways iM_plainRows fM_plainRow fM_kept fM_goalOver fM_goalUnder fM_goalMax fM_different)
          obtain ⟨hP, hD⟩ := frameG p9 p8 hP hD hk1 hFc (fz_P ht hB9.1.1) hB9.1.2.1
          have hz9 : H.size ≤ s.heap.size + (nX_sheet_50 / 32 - (nX_sheet / 32)) := by (try dsimp only at hg1); omega
          have hn9 : nS s.heap.size H ≤ (2 * nX_sheet_50 - (2 * nX_sheet)) := by rw [hSz.n hS0]; (try dsimp only at hg2); omega
          refine W.tight (cells2 := (nX_sheet_50 / 32 - (nX_sheet / 32))) (slots2 := (2 * nX_sheet_50 - (2 * nX_sheet))) hz9 hn9 ?_
          clear hz9 hn9 hz0 hn0 hS0 hSz hg1 hg2
          refine W.known (fun hz9 hn9 => ?_)
          refine W.widen (k := 9376) (n := 660000) (by omega) (by omega) ?_
          exact W.vret hx hb hr (fun t9_ ht hW => ⟨⟨(fX_sheet_50, dX_sheet_50, nX_sheet_50, iX_sheetLength_50), rfl, ⟨b_fX_sheet_50, (by (try dsimp only); exact (by first | exact b_nX_sheet_50 | with_reducible assumption | exact ⟨by omega, by omega⟩ | assumption)), b_iX_sheetLength_50, (by (try dsimp only); exact (by first | with_reducible assumption | omega | (rw [iI_t (by omega) (by omega)]; omega) | (have h7 : (0 : Int32).toInt = 0 := (by decide); omega))), (by (try dsimp only); omega), (by (try dsimp only); first | omega | (rw [iI_t (by omega) (by omega)]; omega))⟩, by rw [ht]; exact hP, hD, by rw [ht]; (try dsimp only); omega, by rw [ht]; (try dsimp only); omega⟩, hS.F ht⟩) hS.2.2 dX11_putWay_118
    · have t_14 : ¬ l4_x5.toInt ≥ iM_variables.toInt := toI_nge c_14 rfl rfl
      refine lv_aload_n hx hb dX11_putWay_17 rfl (lv_at hl 2 rfl) ?_
      refine va_get (D := (dC, dI)) (ci := 11) (v := .ref (hM 0)) (C := RX11) (T := TX11) (N := 11) hx hb hts iwsMX11_putWay_in11 hown hK hP 0 rfl rfl 2 (by decide) (hts _ hm_m_X11_putWay_0) (fun _ h9 => h9) rfl dX11_putWay_18 ?_
      refine lv_iload_n hx hb dX11_putWay_21 rfl (lv_at hl 3 rfl) ?_
      refine lv_iload_n hx hb dX11_putWay_22 rfl (lv_at hl 4 rfl) ?_
      refine lv_iload hx hb dX11_putWay_23 (lv_at hl 0 rfl) ?_
      have p9 := cj_2_1 (WX hX aX kX hT hM fX_ready fX_sheet_x5 dX_sheet_x5 nX_sheet_x5 iX_sheetLength_x5 xX_reader xX_solver xX_prover xX_values xX_clauses xX_nets) (WM hM aM kM iM_stands iM_variables iM_rows iM_goals iM_differents iM_cases fM_from fM_to fM_whole fM_ways iM_plainRows fM_plainRow fM_kept fM_goalOver fM_goalUnder fM_goalMax fM_different)
      have hPc := hP.mem (fun q h => p9.mem_iff.mpr (List.mem_append_left _ h))
      have hDc := (hD.perm p9).left
      have hKc : va_K (dC, dI) vwCl (tM kM) _ := hK.sub [2, 3, 4, 5, 6, 7, 8, 9, 10, 11] rfl
      have hFc := freeG p9 hD hS hA
      refine va_calli (va_runV (As := [.int p1, .int p2, .int l4_x5]) (rest := []) ⟨hx, hb, hml, hown, hts⟩ (m_X1_number l dC dI hM aM kM iM_stands iM_variables iM_rows iM_goals iM_differents iM_cases fM_from fM_to fM_whole fM_ways iM_plainRows fM_plainRow fM_kept fM_goalOver fM_goalUnder fM_goalMax fM_different p1 p2 l4_x5 (b_iM_stands) (b_iM_variables) (b_iM_rows) (b_iM_goals) (b_iM_differents) (b_iM_cases) b_fM_ways (b_iM_plainRows) b_fM_plainRow (by first | with_reducible assumption | omega | assumption) (b_p1) (b_p2) (b_l4_x5) H.size) (cwV 3 hts gwsMX11_putWay_0 rfl rfl rfl (by decide +kernel) ⟨by first | decide +kernel | (dsimp only [headSpec] <;> omega), by first | decide +kernel | (dsimp only [headSpec] <;> omega)⟩) (fz_pre (va_recv hK hP (ci := 1) (q0 := 3) rfl rfl) hPc hKc hDc) rfl rfl hl.1 rfl (lv_room (Nat.le_of_ble_eq_true rfl)) dX11_putWay_25 ⟨by first | decide +kernel | (dsimp only [headSpec] <;> omega), by first | decide +kernel | (dsimp only [headSpec] <;> omega)⟩) hS (fun q _ h => hFc q h) hFc (fun r51 u t9_ H locs ht hvm hw9 hB9 hz1 hk1 hS => ?_)
      clear hw9
      have p8 := p9
      obtain ⟨hP, hD⟩ := frameG p9 p8 hP hD hk1 hFc (fz_P ht hB9.1) hB9.2
      refine lv_istore hx hb dX11_putWay_28 hl (by decide) rfl (fun ls (hl : lv_has ls _ ([(5, .int r51), (4, .int l4_x5), (3, .int l3_x5), (0, .ref (hX 0)), (1, .int p1), (2, .int p2)])) => ?_)
      refine lv_iload hx hb dX11_putWay_30 (lv_at hl 0 rfl) ?_
      refine W.known (fun hzk hnk => ?_)
      refine W.widen (k := 1875) (n := 120000) (by omega) (by omega) ?_
      refine W.cut (pc := 47) (fun H locs ls stk => ∃ (fX_sheet_j16 : Nat → Int32) (dX_sheet_j16 : Nat) (nX_sheet_j16 : Nat) (iX_sheetLength_j16 : Int32) (l3_j16 : Int32), (∀ q : Nat, (-128) ≤ (fX_sheet_j16 q).toInt ∧ (fX_sheet_j16 q).toInt ≤ 127) ∧ (64 ≤ nX_sheet_j16 ∧ nX_sheet_j16 ≤ 60000) ∧ (0 ≤ iX_sheetLength_j16.toInt ∧ iX_sheetLength_j16.toInt ≤ 30000) ∧ (0 ≤ l3_j16.toInt ∧ l3_j16.toInt ≤ 1) ∧ (iX_sheetLength_j16.toInt ≤ ((nX_sheet_j16 : Nat) : Int)) ∧ (iX_sheetLength.toInt ≤ iX_sheetLength_j16.toInt) ∧ (nX_sheet ≤ nX_sheet_j16) ∧ (H.size + (nX_sheet / 32) ≤ s.heap.size + (nX_sheet_j16 / 32) ∧ nS s.heap.size H + (2 * nX_sheet) ≤ (2 * nX_sheet_j16)) ∧  stk = [] ∧ va_P (dC, dI) vwCl (WX hX aX kX hT hM fX_ready fX_sheet_j16 dX_sheet_j16 nX_sheet_j16 iX_sheetLength_j16 xX_reader xX_solver xX_prover xX_values xX_clauses xX_nets ++ (WM hM aM kM iM_stands iM_variables iM_rows iM_goals iM_differents iM_cases fM_from fM_to fM_whole fM_ways iM_plainRows fM_plainRow fM_kept fM_goalOver fM_goalUnder fM_goalMax fM_different)) H ∧ va_D A (WX hX aX kX hT hM fX_ready fX_sheet_j16 dX_sheet_j16 nX_sheet_j16 iX_sheetLength_j16 xX_reader xX_solver xX_prover xX_values xX_clauses xX_nets ++ (WM hM aM kM iM_stands iM_variables iM_rows iM_goals iM_differents iM_cases fM_from fM_to fM_whole fM_ways iM_plainRows fM_plainRow fM_kept fM_goalOver fM_goalUnder fM_goalMax fM_different)) ∧ va_S A s.heap H locs ∧ lv_has ls 6 [(5, .int r51), (4, .int l4_x5), (3, .int l3_j16), (0, .ref (hX 0)), (1, .int p1), (2, .int p2)]) (fun join16 => ?_) ?_
      · refine W.tight (cells2 := (nX_sheet_x5 / 32 - (nX_sheet / 32))) (slots2 := (2 * nX_sheet_x5 - (2 * nX_sheet))) hzk hnk ?_
        refine lv_if_eq (tgt := 47) hx hb dX11_putWay_32 (by decide) (fun c_32 => ?_) (fun c_32 => ?_)
        · have t_32 : r51.toInt = 0 := toI_eq c_32 rfl (by decide : (0 : Int32).toInt = 0)
          have hl : lv_has _ _ ([(5, .int r51), (4, .int l4_x5), (3, .int l3_x5), (0, .ref (hX 0)), (1, .int p1), (2, .int p2)]) := lv_sub hl [0, 1, 2, 3, 4, 5] rfl
          refine W.known (fun hza hna => ?_)
          refine W.widen (k := 1875) (n := 120000) (by omega) (by omega) ?_
          exact join16 _ _ _ _ ⟨fX_sheet_x5, dX_sheet_x5, nX_sheet_x5, iX_sheetLength_x5, l3_x5, b_fX_sheet_x5, (by first | exact b_nX_sheet_x5 | with_reducible assumption | exact ⟨by omega, by omega⟩ | assumption), (b_iX_sheetLength_x5), (b_l3_x5), (by first | with_reducible assumption | omega | (rw [iI_t (by omega) (by omega)]; omega) | (have h7 : (0 : Int32).toInt = 0 := (by decide); omega)), (show iX_sheetLength.toInt ≤ iX_sheetLength_x5.toInt from by omega), (show nX_sheet ≤ nX_sheet_x5 from by omega), ⟨by omega, by omega⟩, rfl, hP, hD, hS, hl⟩
        · have t_32 : ¬ r51.toInt = 0 := toI_neq c_32 rfl (by decide : (0 : Int32).toInt = 0)
          refine lv_aload_n hx hb dX11_putWay_35 rfl (lv_at hl 3 rfl) ?_
          refine lv_iload hx hb dX11_putWay_36 (lv_at hl 0 rfl) ?_
          refine lv_iconst (v := 1) hx hb dX11_putWay_38 (by decide) ?_
          refine lv_iload hx hb dX11_putWay_39 (lv_at hl 1 rfl) ?_
          refine lv_iload_n hx hb dX11_putWay_41 rfl (lv_at hl 2 rfl) ?_
          refine W.known (fun hz0 hn0 => ?_)
          have hS0 := hS.1
          have p9 := cj_2_0 (WX hX aX kX hT hM fX_ready fX_sheet_x5 dX_sheet_x5 nX_sheet_x5 iX_sheetLength_x5 xX_reader xX_solver xX_prover xX_values xX_clauses xX_nets) (WM hM aM kM iM_stands iM_variables iM_rows iM_goals iM_differents iM_cases fM_from fM_to fM_whole fM_ways iM_plainRows fM_plainRow fM_kept fM_goalOver fM_goalUnder fM_goalMax fM_different)
          have hPc := hP.mem (fun q h => p9.mem_iff.mpr (List.mem_append_left _ h))
          have hDc := (hD.perm p9).left
          have hKc : va_K (dC, dI) vwCl (tX kX) _ := hK.sub [0, 1] rfl
          have hFc := freeG p9 hD hS hA
          refine va_callv (va_runV (As := [.int r51, .int 1, .int l4_x5, .int l3_x5]) (rest := []) ⟨hx, hb, hml, hown, hts⟩ (Met.sV (m_X11_putTimes l hst dC dI hX aX kX hT hM fX_ready fX_sheet_x5 dX_sheet_x5 nX_sheet_x5 iX_sheetLength_x5 xX_reader xX_solver xX_prover xX_values xX_clauses xX_nets r51 1 l4_x5 l3_x5 b_fX_sheet_x5 (by first | exact b_nX_sheet_x5 | with_reducible assumption | exact ⟨by omega, by omega⟩ | assumption) (b_iX_sheetLength_x5) (by first | with_reducible assumption | omega | (rw [iI_t (by omega) (by omega)]; omega) | (have h7 : (0 : Int32).toInt = 0 := (by decide); omega)) H.size) H) (cwV 4 hts gwsMX11_putWay_1 rfl rfl rfl (by decide +kernel) ⟨by first | decide +kernel | (dsimp only [headSpec] <;> omega), by first | decide +kernel | (dsimp only [headSpec] <;> omega)⟩) ⟨fun a U g mk q => by obtain ⟨q0, qh, q1, qP, qK, qD, qE⟩ := q; exact ⟨q0, qh, q1, qP, va_K.moved (u := U) (U := U.calling g mk a) (Vm.Alike.refl U.vm) qK, qD, qE.call⟩, va_recv hK hP (ci := 11) (q0 := 0) rfl rfl, fun U hU9 hW => ⟨rfl, hU9, by rw [hU9], by rw [hU9]; exact hPc, va_K.moved hW.alike hKc, hDc.weaken (fun _ _ _ _ => trivial), by rw [hU9]; exact (((hE : CE A s s.heap).kept hS.2.1).narrow (fun q h => hFc q h)).warm hW⟩⟩ rfl rfl hl.1 rfl (lv_room (Nat.le_of_ble_eq_true rfl)) dX11_putWay_42 ⟨by first | decide +kernel | (dsimp only [headSpec] <;> omega), by first | decide +kernel | (dsimp only [headSpec] <;> omega)⟩) hS (fun q _ h => hFc q h) hFc (fun u t9_ H locs ht hvm hw9 hB9 hz1 hk1 hS => ?_)
          revert u hw9 hB9
          refine fz_p4 ?_
          intro fX_sheet_53 dX_sheet_53 nX_sheet_53 iX_sheetLength_53 hw9 hB9
          try dsimp only at hw9 hB9
          revert hw9
          refine fz_a6 ?_
          intro b_fX_sheet_53 b_nX_sheet_53 b_iX_sheetLength_53 b_shl_53 f53_0 f53_1
          have hg1 := hB9.1.2.2.1
          rw [ht] at hg1
          have hg2 := hB9.1.2.2.2
          rw [ht] at hg2
          have hSz := hB9.2
          rw [ht] at hSz
          have p8 := cj_2_0 (WX hX aX kX hT hM fX_ready fX_sheet_53 dX_sheet_53 nX_sheet_53 iX_sheetLength_53 xX_reader xX_solver xX_prover xX_values xX_clauses xX_nets) (WM hM aM kM iM_stands iM_variables iM_rows iM_goals iM_differents iM_cases fM_from fM_to fM_whole fM_ways iM_plainRows fM_plainRow fM_kept fM_goalOver fM_goalUnder fM_goalMax fM_different)
          obtain ⟨hP, hD⟩ := frameG p9 p8 hP hD hk1 hFc (fz_P ht hB9.1.1) hB9.1.2.1
          have hz9 : H.size ≤ s.heap.size + (nX_sheet_53 / 32 - (nX_sheet / 32)) := by (try dsimp only at hg1); omega
          have hn9 : nS s.heap.size H ≤ (2 * nX_sheet_53 - (2 * nX_sheet)) := by rw [hSz.n hS0]; (try dsimp only at hg2); omega
          refine W.tight (cells2 := (nX_sheet_53 / 32 - (nX_sheet / 32))) (slots2 := (2 * nX_sheet_53 - (2 * nX_sheet))) hz9 hn9 ?_
          clear hz9 hn9 hz0 hn0 hS0 hSz hg1 hg2
          refine lv_iconst (v := 0) hx hb dX11_putWay_45 (by decide) ?_
          refine lv_istore_n hx hb dX11_putWay_46 rfl hl (by decide) rfl (fun ls (hl : lv_has ls _ ([(3, .int 0), (5, .int r51), (4, .int l4_x5), (0, .ref (hX 0)), (1, .int p1), (2, .int p2)])) => ?_)
          have hl : lv_has _ _ ([(5, .int r51), (4, .int l4_x5), (3, .int 0), (0, .ref (hX 0)), (1, .int p1), (2, .int p2)]) := lv_sub hl [1, 2, 0, 3, 4, 5] rfl
          refine W.known (fun hza hna => ?_)
          refine W.widen (k := 1875) (n := 120000) (by omega) (by omega) ?_
          exact join16 _ _ _ _ ⟨fX_sheet_53, dX_sheet_53, nX_sheet_53, iX_sheetLength_53, 0, b_fX_sheet_53, (by first | exact b_nX_sheet_53 | with_reducible assumption | exact ⟨by omega, by omega⟩ | assumption), (b_iX_sheetLength_53), (show 0 ≤ (0 : Int32).toInt ∧ (0 : Int32).toInt ≤ 1 from by decide), (by first | with_reducible assumption | omega | (rw [iI_t (by omega) (by omega)]; omega) | (have h7 : (0 : Int32).toInt = 0 := (by decide); omega)), (show iX_sheetLength.toInt ≤ iX_sheetLength_53.toInt from by omega), (show nX_sheet ≤ nX_sheet_53 from by omega), ⟨by omega, by omega⟩, rfl, hP, hD, hS, hl⟩
      · intro H locs ls stk
        refine fz_e5 ?_
        intro fX_sheet_j16 dX_sheet_j16 nX_sheet_j16 iX_sheetLength_j16 l3_j16
        refine fz_a13 ?_
        intro b_fX_sheet_j16 b_nX_sheet_j16 b_iX_sheetLength_j16 b_l3_j16 b_shl_j16 hjx hgm0_j16 hzn9_7 hst9_8 hP hD hS hl
        have hzj := hzn9_7.1
        have hnj := hzn9_7.2
        clear hzn9_7
        subst hst9_8
        refine W.tight (cells2 := (nX_sheet_j16 / 32 - (nX_sheet / 32))) (slots2 := (2 * nX_sheet_j16 - (2 * nX_sheet))) (tg1 hzj hS.1) (tg2 hnj) ?_
        refine lv_iinc (v := (iI (l4_x5.toInt + 1))) hx hb dX11_putWay_47 hl (k := 1) rfl (iI_add2 (iI_of _) (by decide : (1 : Int32) = iI 1)) (by decide) rfl (fun ls (hl : lv_has ls _ ([(4, .int (iI (l4_x5.toInt + 1))), (5, .int r51), (3, .int l3_j16), (0, .ref (hX 0)), (1, .int p1), (2, .int p2)])) => ?_)
        refine lv_goto (tgt := 5) hx hb dX11_putWay_50 (by decide) ?_
        have hl : lv_has _ _ ([(4, .int (iI (l4_x5.toInt + 1))), (3, .int l3_j16), (0, .ref (hX 0)), (1, .int p1), (2, .int p2)]) := lv_sub hl [0, 2, 3, 4, 5] rfl
        exact ihx5 fX_sheet_j16 dX_sheet_j16 nX_sheet_j16 iX_sheetLength_j16 (iI (l4_x5.toInt + 1)) l3_j16 _ _ _ b_fX_sheet_j16 (by first | exact b_nX_sheet_j16 | with_reducible assumption | exact ⟨by omega, by omega⟩ | assumption) (b_iX_sheetLength_j16) (iI_rng (Int.le_trans (by decide) (Int.add_le_add (b_l4_x5.1) (Int.le_refl _))) (by omega) (by decide) (by decide)) (b_l3_j16) (by first | with_reducible assumption | omega | (rw [iI_t (by omega) (by omega)]; omega) | (have h7 : (0 : Int32).toInt = 0 := (by decide); omega)) (show iX_sheetLength.toInt ≤ iX_sheetLength_j16.toInt from by omega) (show nX_sheet ≤ nX_sheet_j16 from by omega) (by have e9 : ((iI (l4_x5.toInt + 1))).toInt = (l4_x5.toInt + 1) := (iI_t (Int.le_trans (by decide) (Int.add_le_add (b_l4_x5.1) (Int.le_refl _))) (Int.le_trans (Int.add_le_add (b_l4_x5.2) (Int.le_refl _)) (by decide))); omega) hP hD hS hl
theorem dX11_putRow_0 : decode cX11_putRow 0 = .ok (.aload_n 0, 1) := dk_42 (by decide +kernel)
theorem dX11_putRow_1 : decode cX11_putRow 1 = .ok (.ldc_w 294, 3) := dk_19 (by decide +kernel)
theorem dX11_putRow_4 : decode cX11_putRow 4 = .ok (.invokevirtual 279, 3) := dk_182 (by decide +kernel)
theorem dX11_putRow_7 : decode cX11_putRow 7 = .ok (.aload_n 0, 1) := dk_42 (by decide +kernel)
theorem dX11_putRow_8 : decode cX11_putRow 8 = .ok (.iload_n 1, 1) := dk_27 (by decide +kernel)
theorem dX11_putRow_9 : decode cX11_putRow 9 = .ok (.invokevirtual 283, 3) := dk_182 (by decide +kernel)
theorem dX11_putRow_12 : decode cX11_putRow 12 = .ok (.aload_n 0, 1) := dk_42 (by decide +kernel)
theorem dX11_putRow_13 : decode cX11_putRow 13 = .ok (.ldc_w 296, 3) := dk_19 (by decide +kernel)
theorem dX11_putRow_16 : decode cX11_putRow 16 = .ok (.invokevirtual 279, 3) := dk_182 (by decide +kernel)
theorem dX11_putRow_19 : decode cX11_putRow 19 = .ok (.iconst 0, 1) := dk_3 (by decide +kernel)
theorem dX11_putRow_20 : decode cX11_putRow 20 = .ok (.istore_n 2, 1) := dk_61 (by decide +kernel)
theorem dX11_putRow_21 : decode cX11_putRow 21 = .ok (.iload_n 2, 1) := dk_28 (by decide +kernel)
theorem dX11_putRow_22 : decode cX11_putRow 22 = .ok (.aload_n 0, 1) := dk_42 (by decide +kernel)
theorem dX11_putRow_23 : decode cX11_putRow 23 = .ok (.getfield 23, 3) := dk_180 (by decide +kernel)
theorem dX11_putRow_26 : decode cX11_putRow 26 = .ok (.getfield 109, 3) := dk_180 (by decide +kernel)
theorem dX11_putRow_29 : decode cX11_putRow 29 = .ok (.iload_n 1, 1) := dk_27 (by decide +kernel)
theorem dX11_putRow_30 : decode cX11_putRow 30 = .ok (.iaload, 1) := dk_46 (by decide +kernel)
theorem dX11_putRow_31 : decode cX11_putRow 31 = .ok (.if_icmp .ge 26, 3) := dk_162 (by decide +kernel)
theorem dX11_putRow_34 : decode cX11_putRow 34 = .ok (.iload_n 2, 1) := dk_28 (by decide +kernel)
theorem dX11_putRow_35 : decode cX11_putRow 35 = .ok (.ifCond .le 10, 3) := dk_158 (by decide +kernel)
theorem dX11_putRow_38 : decode cX11_putRow 38 = .ok (.aload_n 0, 1) := dk_42 (by decide +kernel)
theorem dX11_putRow_39 : decode cX11_putRow 39 = .ok (.ldc_w 298, 3) := dk_19 (by decide +kernel)
theorem dX11_putRow_42 : decode cX11_putRow 42 = .ok (.invokevirtual 279, 3) := dk_182 (by decide +kernel)
theorem dX11_putRow_45 : decode cX11_putRow 45 = .ok (.aload_n 0, 1) := dk_42 (by decide +kernel)
theorem dX11_putRow_46 : decode cX11_putRow 46 = .ok (.iload_n 1, 1) := dk_27 (by decide +kernel)
theorem dX11_putRow_47 : decode cX11_putRow 47 = .ok (.iload_n 2, 1) := dk_28 (by decide +kernel)
theorem dX11_putRow_48 : decode cX11_putRow 48 = .ok (.invokevirtual 300, 3) := dk_182 (by decide +kernel)
theorem dX11_putRow_51 : decode cX11_putRow 51 = .ok (.iinc 2 1, 3) := dk_132 (by decide +kernel)
theorem dX11_putRow_54 : decode cX11_putRow 54 = .ok (.goto (-33), 3) := dk_167 (by decide +kernel)
theorem dX11_putRow_57 : decode cX11_putRow 57 = .ok (.aload_n 0, 1) := dk_42 (by decide +kernel)
theorem dX11_putRow_58 : decode cX11_putRow 58 = .ok (.ldc_w 292, 3) := dk_19 (by decide +kernel)
theorem dX11_putRow_61 : decode cX11_putRow 61 = .ok (.invokevirtual 279, 3) := dk_182 (by decide +kernel)
theorem dX11_putRow_64 : decode cX11_putRow 64 = .ok (.return_, 1) := dk_177 (by decide +kernel)
def wsMX11_putRow : List Cond := .code yX11_putRow cX11_putRow 3 none :: ([.fieldLink RX11 23 "OptimaWorks" "model" "LOptimaWorks$Model;", .fieldLink RX11 109 "OptimaWorks$Model" "ways" "[I"] ++ wsX10 ++ wsX110 ++ (wsV RX11 279 RX11 yX11_putText wsMX11_putText) ++ (wsV RX11 283 RX11 yX11_putNumber wsMX11_putNumber) ++ (wsV RX11 300 RX11 yX11_putWay wsMX11_putWay))
theorem iwsMX11_putRow_in1 : ∀ w ∈ wsX10, w ∈ wsMX11_putRow := fun _ h => List.mem_cons_of_mem _ (List.mem_append_left _ (List.mem_append_left _ (List.mem_append_left _ (List.mem_append_left _ (List.mem_append_right _ h)))))
theorem iwsMX11_putRow_in11 : ∀ w ∈ wsX110, w ∈ wsMX11_putRow := fun _ h => List.mem_cons_of_mem _ (List.mem_append_left _ (List.mem_append_left _ (List.mem_append_left _ (List.mem_append_right _ h))))
theorem gwsMX11_putRow_0 : GoodIn wsMX11_putRow (wsV RX11 279 RX11 yX11_putText wsMX11_putText) := goodIn_sub (fun _ h => List.mem_cons_of_mem _ (List.mem_append_left _ (List.mem_append_left _ (List.mem_append_right _ h)))) (gdV (by decide +kernel) gdwsMX11_putText)
theorem gwsMX11_putRow_1 : GoodIn wsMX11_putRow (wsV RX11 283 RX11 yX11_putNumber wsMX11_putNumber) := goodIn_sub (fun _ h => List.mem_cons_of_mem _ (List.mem_append_left _ (List.mem_append_right _ h))) (gdV (by decide +kernel) gdwsMX11_putNumber)
theorem gwsMX11_putRow_2 : GoodIn wsMX11_putRow (wsV RX11 300 RX11 yX11_putWay wsMX11_putWay) := goodIn_sub (fun _ h => List.mem_cons_of_mem _ (List.mem_append_right _ h)) (gdV (by decide +kernel) gdwsMX11_putWay)
theorem gdwsMX11_putRow : wsMX11_putRow.all goodWord = true := gdC rfl (gdA (gdA (gdA (gdA (gdA (by decide +kernel : ([.fieldLink RX11 23 "OptimaWorks" "model" "LOptimaWorks$Model;", .fieldLink RX11 109 "OptimaWorks$Model" "ways" "[I"] : List Cond).all goodWord = true) gdwsX10) gdwsX110) (gdV (by decide +kernel) gdwsMX11_putText)) (gdV (by decide +kernel) gdwsMX11_putNumber)) (gdV (by decide +kernel) gdwsMX11_putWay))
set_option maxHeartbeats 4000000 in
set_option maxRecDepth 100000 in
/-- a row more -/
theorem m_X11_putRow (l : Launch) (hst : l.stackTraces = false) (dC : Nat → ClassId) (dI : Nat → Nat → Nat) (hX : Nat → Nat) (aX : Nat → Nat) (kX : Nat → ClassId) (hT : Nat → Nat) (hM : Nat → Nat) (fX_ready : Nat → Int32) (fX_sheet : Nat → Int32) (dX_sheet : Nat) (nX_sheet : Nat) (iX_sheetLength : Int32) (xX_reader : Value) (xX_solver : Value) (xX_prover : Value) (xX_values : Value) (xX_clauses : Value) (xX_nets : Value) (aM : Nat → Nat) (kM : Nat → ClassId) (iM_stands : Int32) (iM_variables : Int32) (iM_rows : Int32) (iM_goals : Int32) (iM_differents : Int32) (iM_cases : Int32) (fM_from : Nat → Int32) (fM_to : Nat → Int32) (fM_whole : Nat → Int32) (fM_ways : Nat → Int32) (iM_plainRows : Int32) (fM_plainRow : Nat → Int32) (fM_kept : Nat → Int32) (fM_goalOver : Nat → Int32) (fM_goalUnder : Nat → Int32) (fM_goalMax : Nat → Int32) (fM_different : Nat → Int32) (p1 : Int32) (b_fX_sheet : ∀ q : Nat, (-128) ≤ (fX_sheet q).toInt ∧ (fX_sheet q).toInt ≤ 127) (b_nX_sheet : 64 ≤ nX_sheet ∧ nX_sheet ≤ 60000) (b_iX_sheetLength : 0 ≤ iX_sheetLength.toInt ∧ iX_sheetLength.toInt ≤ 30000) (b_shl : iX_sheetLength.toInt ≤ ((nX_sheet : Nat) : Int)) (b_iM_stands : 0 ≤ iM_stands.toInt ∧ iM_stands.toInt ≤ 1) (b_iM_variables : 0 ≤ iM_variables.toInt ∧ iM_variables.toInt ≤ 8) (b_iM_rows : 0 ≤ iM_rows.toInt ∧ iM_rows.toInt ≤ 12) (b_iM_goals : 0 ≤ iM_goals.toInt ∧ iM_goals.toInt ≤ 3) (b_iM_differents : 0 ≤ iM_differents.toInt ∧ iM_differents.toInt ≤ 8) (b_iM_cases : 0 ≤ iM_cases.toInt ∧ iM_cases.toInt ≤ 200000) (b_fM_ways : ∀ q : Nat, 0 ≤ (fM_ways q).toInt ∧ (fM_ways q).toInt ≤ 3) (b_iM_plainRows : 0 ≤ iM_plainRows.toInt ∧ iM_plainRows.toInt ≤ 12) (b_fM_plainRow : ∀ q : Nat, 0 ≤ (fM_plainRow q).toInt ∧ (fM_plainRow q).toInt ≤ 11) (b_pr : iM_plainRows.toInt ≤ iM_rows.toInt) (b_p1 : 0 ≤ p1.toInt ∧ p1.toInt ≤ 11) (sz : Nat) : Met l yX11_putRow wsMX11_putRow ({ frames := 7, cells := 11251, slots := 780000, locals := 157 }) (va_Pc [.ref (hX 0), .int p1] (fun U => U.heap.size = sz ∧ va_P (dC, dI) vwCl (WX hX aX kX hT hM fX_ready fX_sheet dX_sheet nX_sheet iX_sheetLength xX_reader xX_solver xX_prover xX_values xX_clauses xX_nets ++ (WM hM aM kM iM_stands iM_variables iM_rows iM_goals iM_differents iM_cases fM_from fM_to fM_whole fM_ways iM_plainRows fM_plainRow fM_kept fM_goalOver fM_goalUnder fM_goalMax fM_different)) U.heap ∧ va_K (dC, dI) vwCl (tX kX ++ (tM kM)) U ∧ va_D (fun _ => True) (WX hX aX kX hT hM fX_ready fX_sheet dX_sheet nX_sheet iX_sheetLength xX_reader xX_solver xX_prover xX_values xX_clauses xX_nets ++ (WM hM aM kM iM_stands iM_variables iM_rows iM_goals iM_differents iM_cases fM_from fM_to fM_whole fM_ways iM_plainRows fM_plainRow fM_kept fM_goalOver fM_goalUnder fM_goalMax fM_different)) ∧ CE (va_A (WX hX aX kX hT hM fX_ready fX_sheet dX_sheet nX_sheet iX_sheetLength xX_reader xX_solver xX_prover xX_values xX_clauses xX_nets ++ (WM hM aM kM iM_stands iM_variables iM_rows iM_goals iM_differents iM_cases fM_from fM_to fM_whole fM_ways iM_plainRows fM_plainRow fM_kept fM_goalOver fM_goalUnder fM_goalMax fM_different)) sz) U U.heap)) (va_Qv (fun (u : (Nat → Int32) × (Nat) × (Nat) × (Int32)) => (∀ q : Nat, (-128) ≤ ((u.1) q).toInt ∧ ((u.1) q).toInt ≤ 127) ∧ (64 ≤ (u.2.2.1) ∧ (u.2.2.1) ≤ 60000) ∧ (0 ≤ (u.2.2.2).toInt ∧ (u.2.2.2).toInt ≤ 30000) ∧ ((u.2.2.2).toInt ≤ (((u.2.2.1) : Nat) : Int)) ∧ (nX_sheet ≤ (u.2.2.1)) ∧ (iX_sheetLength.toInt ≤ (u.2.2.2).toInt)) (fun (u : (Nat → Int32) × (Nat) × (Nat) × (Int32)) t => va_P (dC, dI) vwCl (WX hX aX kX hT hM fX_ready (u.1) (u.2.1) (u.2.2.1) (u.2.2.2) xX_reader xX_solver xX_prover xX_values xX_clauses xX_nets ++ (WM hM aM kM iM_stands iM_variables iM_rows iM_goals iM_differents iM_cases fM_from fM_to fM_whole fM_ways iM_plainRows fM_plainRow fM_kept fM_goalOver fM_goalUnder fM_goalMax fM_different)) t.heap ∧ va_D (va_A (WX hX aX kX hT hM fX_ready fX_sheet dX_sheet nX_sheet iX_sheetLength xX_reader xX_solver xX_prover xX_values xX_clauses xX_nets ++ (WM hM aM kM iM_stands iM_variables iM_rows iM_goals iM_differents iM_cases fM_from fM_to fM_whole fM_ways iM_plainRows fM_plainRow fM_kept fM_goalOver fM_goalUnder fM_goalMax fM_different)) sz) (WX hX aX kX hT hM fX_ready (u.1) (u.2.1) (u.2.2.1) (u.2.2.2) xX_reader xX_solver xX_prover xX_values xX_clauses xX_nets ++ (WM hM aM kM iM_stands iM_variables iM_rows iM_goals iM_differents iM_cases fM_from fM_to fM_whole fM_ways iM_plainRows fM_plainRow fM_kept fM_goalOver fM_goalUnder fM_goalMax fM_different)) ∧ t.heap.size + (nX_sheet / 32) ≤ sz + ((u.2.2.1) / 32) ∧ nS sz t.heap + (2 * nX_sheet) ≤ (2 * (u.2.2.1))) (va_A (WX hX aX kX hT hM fX_ready fX_sheet dX_sheet nX_sheet iX_sheetLength xX_reader xX_solver xX_prover xX_values xX_clauses xX_nets ++ (WM hM aM kM iM_stands iM_variables iM_rows iM_goals iM_differents iM_cases fM_from fM_to fM_whole fM_ways iM_plainRows fM_plainRow fM_kept fM_goalOver fM_goalUnder fM_goalMax fM_different)) sz)) 11251 780000 (va_A (WX hX aX kX hT hM fX_ready fX_sheet dX_sheet nX_sheet iX_sheetLength xX_reader xX_solver xX_prover xX_values xX_clauses xX_nets ++ (WM hM aM kM iM_stands iM_variables iM_rows iM_goals iM_differents iM_cases fM_from fM_to fM_whole fM_ways iM_plainRows fM_plainRow fM_kept fM_goalOver fM_goalUnder fM_goalMax fM_different)) sz) := by
  refine Met.ofW (cc := cX11_putRow) (maxL := 3) (ret := none) (by decide) rfl ?_
  intro p e s m args below meth c s₁ B hml hv
  obtain ⟨rfl, hsz, hP, hK, hD0, hE⟩ := hv
  have hx := B.exec
  have hb := B.bytes
  have hr := B.returns
  have hts := atoms_spec (ws := wsMX11_putRow) B.pre
  have hown : s.vm.findClass RX11 = some m.cls := findClass_of_methodNamed B.named
  have hlocks := B.notSynchronized
  subst hsz
  have hD := hD0.self (sz := s.heap.size)
  generalize hAe : va_A (WX hX aX kX hT hM fX_ready fX_sheet dX_sheet nX_sheet iX_sheetLength xX_reader xX_solver xX_prover xX_values xX_clauses xX_nets ++ (WM hM aM kM iM_stands iM_variables iM_rows iM_goals iM_differents iM_cases fM_from fM_to fM_whole fM_ways iM_plainRows fM_plainRow fM_kept fM_goalOver fM_goalUnder fM_goalMax fM_different)) s.heap.size = A at hD hE ⊢
  have hA : ∀ q : Nat, s.heap.size ≤ q → A q := fun q h => by rw [← hAe]; exact Or.inr h
  have hS : va_S A s.heap s.heap [] := va_S.rf
  have hl := lv_entry ([.ref (hX 0), .int p1]) (n := 3) (Nat.le_of_ble_eq_true rfl)
  rw [lg_entry_eq]
  generalize (lg_sl ([.ref (hX 0), .int p1]) ++ List.replicate (3 - (lg_sl ([.ref (hX 0), .int p1])).length) Slot.unset).toArray = ls at hl ⊢
  have hl : lv_has ls 3 [(0, .ref (hX 0)), (1, .int p1)] := hl
  refine W.widen (k := (nX_sheet / 32 - (nX_sheet / 32))) (n := (2 * nX_sheet - (2 * nX_sheet))) (Nat.zero_le _) (Nat.zero_le _) ?_
  refine lv_aload_n hx hb dX11_putRow_0 rfl (lv_at hl 0 rfl) ?_
  obtain ⟨qS294, hR294, hSS294⟩ := hE.2.2.2 5 _ rfl
  refine lv_ldcwS hx hb hown hR294 dX11_putRow_1 ?_
  refine W.known (fun hz0 hn0 => ?_)
  have hS0 := hS.1
  have p9 := cj_2_0 (WX hX aX kX hT hM fX_ready fX_sheet dX_sheet nX_sheet iX_sheetLength xX_reader xX_solver xX_prover xX_values xX_clauses xX_nets) (WM hM aM kM iM_stands iM_variables iM_rows iM_goals iM_differents iM_cases fM_from fM_to fM_whole fM_ways iM_plainRows fM_plainRow fM_kept fM_goalOver fM_goalUnder fM_goalMax fM_different)
  have hPc := hP.mem (fun q h => p9.mem_iff.mpr (List.mem_append_left _ h))
  have hDc := (hD.perm p9).left
  have hKc : va_K (dC, dI) vwCl (tX kX) _ := hK.sub [0, 1] rfl
  have hFc := freeG p9 hD hS hA
  refine va_callv (va_runV (As := [.ref qS294]) (rest := []) ⟨hx, hb, hml, hown, hts⟩ (Met.sV (m_X11_putText l dC dI hX aX kX hT hM fX_ready fX_sheet dX_sheet nX_sheet iX_sheetLength xX_reader xX_solver xX_prover xX_values xX_clauses xX_nets qS294 5 (fun j => ([114, 111, 119, 32, 114] : List Int32).getD j 0) b_fX_sheet (by first | exact b_nX_sheet | with_reducible assumption | exact ⟨by omega, by omega⟩ | assumption) (b_iX_sheetLength) (by first | with_reducible assumption | omega | (rw [iI_t (by omega) (by omega)]; omega) | (have h7 : (0 : Int32).toInt = 0 := (by decide); omega)) (by decide) s.heap.size) s.heap) (cwV 1 hts gwsMX11_putRow_0 rfl rfl rfl (by decide +kernel) ⟨by first | decide +kernel | (dsimp only [headSpec] <;> omega), by first | decide +kernel | (dsimp only [headSpec] <;> omega)⟩) ⟨fun a U g mk q => by obtain ⟨q0, qh, q1, qP, qK, qD, qE⟩ := q; exact ⟨q0, qh, q1, qP, va_K.moved (u := U) (U := U.calling g mk a) (Vm.Alike.refl U.vm) qK, qD, qE.same rfl⟩, va_recv hK hP (ci := 11) (q0 := 0) rfl rfl, fun U hU9 hW => ⟨rfl, hU9, by rw [hU9], by rw [hU9]; exact hPc, va_K.moved hW.alike hKc, hDc.weaken (fun _ _ _ _ => trivial), by rw [hU9]; exact (((hSS294 : (StrE qS294 5 (fun j => ([114, 111, 119, 32, 114] : List Int32).getD j 0)) A s s.heap).kept hS.2.1).narrow (fun q h => hFc q h)).warm hW⟩⟩ rfl rfl hl.1 rfl (lv_room (Nat.le_of_ble_eq_true rfl)) dX11_putRow_4 ⟨by first | decide +kernel | (dsimp only [headSpec] <;> omega), by first | decide +kernel | (dsimp only [headSpec] <;> omega)⟩) hS (fun q _ h => hFc q h) hFc (fun u t9_ H locs ht hvm hw9 hB9 hz1 hk1 hS => ?_)
  revert u hw9 hB9
  refine fz_p4 ?_
  intro fX_sheet_1 dX_sheet_1 nX_sheet_1 iX_sheetLength_1 hw9 hB9
  try dsimp only at hw9 hB9
  revert hw9
  refine fz_a6 ?_
  intro b_fX_sheet_1 b_nX_sheet_1 b_iX_sheetLength_1 b_shl_1 f1_0 f1_1
  have hg1 := hB9.1.2.2.1
  rw [ht] at hg1
  have hg2 := hB9.1.2.2.2
  rw [ht] at hg2
  have hSz := hB9.2
  rw [ht] at hSz
  have p8 := cj_2_0 (WX hX aX kX hT hM fX_ready fX_sheet_1 dX_sheet_1 nX_sheet_1 iX_sheetLength_1 xX_reader xX_solver xX_prover xX_values xX_clauses xX_nets) (WM hM aM kM iM_stands iM_variables iM_rows iM_goals iM_differents iM_cases fM_from fM_to fM_whole fM_ways iM_plainRows fM_plainRow fM_kept fM_goalOver fM_goalUnder fM_goalMax fM_different)
  obtain ⟨hP, hD⟩ := frameG p9 p8 hP hD hk1 hFc (fz_P ht hB9.1.1) hB9.1.2.1
  have hz9 : H.size ≤ s.heap.size + (nX_sheet_1 / 32 - (nX_sheet / 32)) := by (try dsimp only at hg1); omega
  have hn9 : nS s.heap.size H ≤ (2 * nX_sheet_1 - (2 * nX_sheet)) := by rw [hSz.n hS0]; (try dsimp only at hg2); omega
  refine W.tight (cells2 := (nX_sheet_1 / 32 - (nX_sheet / 32))) (slots2 := (2 * nX_sheet_1 - (2 * nX_sheet))) hz9 hn9 ?_
  clear hz9 hn9 hz0 hn0 hS0 hSz hg1 hg2
  refine lv_aload_n hx hb dX11_putRow_7 rfl (lv_at hl 0 rfl) ?_
  refine lv_iload_n hx hb dX11_putRow_8 rfl (lv_at hl 1 rfl) ?_
  refine W.known (fun hz0 hn0 => ?_)
  have hS0 := hS.1
  have p9 := cj_2_0 (WX hX aX kX hT hM fX_ready fX_sheet_1 dX_sheet_1 nX_sheet_1 iX_sheetLength_1 xX_reader xX_solver xX_prover xX_values xX_clauses xX_nets) (WM hM aM kM iM_stands iM_variables iM_rows iM_goals iM_differents iM_cases fM_from fM_to fM_whole fM_ways iM_plainRows fM_plainRow fM_kept fM_goalOver fM_goalUnder fM_goalMax fM_different)
  have hPc := hP.mem (fun q h => p9.mem_iff.mpr (List.mem_append_left _ h))
  have hDc := (hD.perm p9).left
  have hKc : va_K (dC, dI) vwCl (tX kX) _ := hK.sub [0, 1] rfl
  have hFc := freeG p9 hD hS hA
  refine va_callv (va_runV (As := [.int p1]) (rest := []) ⟨hx, hb, hml, hown, hts⟩ (Met.sV (m_X11_putNumber l dC dI hX aX kX hT hM fX_ready fX_sheet_1 dX_sheet_1 nX_sheet_1 iX_sheetLength_1 xX_reader xX_solver xX_prover xX_values xX_clauses xX_nets p1 b_fX_sheet_1 (by first | exact b_nX_sheet_1 | with_reducible assumption | exact ⟨by omega, by omega⟩ | assumption) (b_iX_sheetLength_1) (by first | with_reducible assumption | omega | (rw [iI_t (by omega) (by omega)]; omega) | (have h7 : (0 : Int32).toInt = 0 := (by decide); omega)) H.size) H) (cwV 1 hts gwsMX11_putRow_1 rfl rfl rfl (by decide +kernel) ⟨by first | decide +kernel | (dsimp only [headSpec] <;> omega), by first | decide +kernel | (dsimp only [headSpec] <;> omega)⟩) ⟨fun a U g mk q => by obtain ⟨q0, qh, q1, qP, qK, qD⟩ := q; exact ⟨q0, qh, q1, qP, va_K.moved (u := U) (U := U.calling g mk a) (Vm.Alike.refl U.vm) qK, qD⟩, va_recv hK hP (ci := 11) (q0 := 0) rfl rfl, fun U hU9 hW => ⟨rfl, hU9, by rw [hU9], by rw [hU9]; exact hPc, va_K.moved hW.alike hKc, hDc.weaken (fun _ _ _ _ => trivial)⟩⟩ rfl rfl hl.1 rfl (lv_room (Nat.le_of_ble_eq_true rfl)) dX11_putRow_9 ⟨by first | decide +kernel | (dsimp only [headSpec] <;> omega), by first | decide +kernel | (dsimp only [headSpec] <;> omega)⟩) hS (fun q _ h => hFc q h) hFc (fun u t9_ H locs ht hvm hw9 hB9 hz1 hk1 hS => ?_)
  revert u hw9 hB9
  refine fz_p4 ?_
  intro fX_sheet_2 dX_sheet_2 nX_sheet_2 iX_sheetLength_2 hw9 hB9
  try dsimp only at hw9 hB9
  revert hw9
  refine fz_a6 ?_
  intro b_fX_sheet_2 b_nX_sheet_2 b_iX_sheetLength_2 b_shl_2 f2_0 f2_1
  have hg1 := hB9.1.2.2.1
  rw [ht] at hg1
  have hg2 := hB9.1.2.2.2
  rw [ht] at hg2
  have hSz := hB9.2
  rw [ht] at hSz
  have p8 := cj_2_0 (WX hX aX kX hT hM fX_ready fX_sheet_2 dX_sheet_2 nX_sheet_2 iX_sheetLength_2 xX_reader xX_solver xX_prover xX_values xX_clauses xX_nets) (WM hM aM kM iM_stands iM_variables iM_rows iM_goals iM_differents iM_cases fM_from fM_to fM_whole fM_ways iM_plainRows fM_plainRow fM_kept fM_goalOver fM_goalUnder fM_goalMax fM_different)
  obtain ⟨hP, hD⟩ := frameG p9 p8 hP hD hk1 hFc (fz_P ht hB9.1.1) hB9.1.2.1
  have hz9 : H.size ≤ s.heap.size + (nX_sheet_2 / 32 - (nX_sheet / 32)) := by (try dsimp only at hg1); omega
  have hn9 : nS s.heap.size H ≤ (2 * nX_sheet_2 - (2 * nX_sheet)) := by rw [hSz.n hS0]; (try dsimp only at hg2); omega
  refine W.tight (cells2 := (nX_sheet_2 / 32 - (nX_sheet / 32))) (slots2 := (2 * nX_sheet_2 - (2 * nX_sheet))) hz9 hn9 ?_
  clear hz9 hn9 hz0 hn0 hS0 hSz hg1 hg2
  refine lv_aload_n hx hb dX11_putRow_12 rfl (lv_at hl 0 rfl) ?_
  obtain ⟨qS296, hR296, hSS296⟩ := hE.2.2.2 6 _ rfl
  refine lv_ldcwS hx hb hown hR296 dX11_putRow_13 ?_
  refine W.known (fun hz0 hn0 => ?_)
  have hS0 := hS.1
  have p9 := cj_2_0 (WX hX aX kX hT hM fX_ready fX_sheet_2 dX_sheet_2 nX_sheet_2 iX_sheetLength_2 xX_reader xX_solver xX_prover xX_values xX_clauses xX_nets) (WM hM aM kM iM_stands iM_variables iM_rows iM_goals iM_differents iM_cases fM_from fM_to fM_whole fM_ways iM_plainRows fM_plainRow fM_kept fM_goalOver fM_goalUnder fM_goalMax fM_different)
  have hPc := hP.mem (fun q h => p9.mem_iff.mpr (List.mem_append_left _ h))
  have hDc := (hD.perm p9).left
  have hKc : va_K (dC, dI) vwCl (tX kX) _ := hK.sub [0, 1] rfl
  have hFc := freeG p9 hD hS hA
  refine va_callv (va_runV (As := [.ref qS296]) (rest := []) ⟨hx, hb, hml, hown, hts⟩ (Met.sV (m_X11_putText l dC dI hX aX kX hT hM fX_ready fX_sheet_2 dX_sheet_2 nX_sheet_2 iX_sheetLength_2 xX_reader xX_solver xX_prover xX_values xX_clauses xX_nets qS296 2 (fun j => ([32, 58] : List Int32).getD j 0) b_fX_sheet_2 (by first | exact b_nX_sheet_2 | with_reducible assumption | exact ⟨by omega, by omega⟩ | assumption) (b_iX_sheetLength_2) (by first | with_reducible assumption | omega | (rw [iI_t (by omega) (by omega)]; omega) | (have h7 : (0 : Int32).toInt = 0 := (by decide); omega)) (by decide) H.size) H) (cwV 1 hts gwsMX11_putRow_0 rfl rfl rfl (by decide +kernel) ⟨by first | decide +kernel | (dsimp only [headSpec] <;> omega), by first | decide +kernel | (dsimp only [headSpec] <;> omega)⟩) ⟨fun a U g mk q => by obtain ⟨q0, qh, q1, qP, qK, qD, qE⟩ := q; exact ⟨q0, qh, q1, qP, va_K.moved (u := U) (U := U.calling g mk a) (Vm.Alike.refl U.vm) qK, qD, qE.same rfl⟩, va_recv hK hP (ci := 11) (q0 := 0) rfl rfl, fun U hU9 hW => ⟨rfl, hU9, by rw [hU9], by rw [hU9]; exact hPc, va_K.moved hW.alike hKc, hDc.weaken (fun _ _ _ _ => trivial), by rw [hU9]; exact (((hSS296 : (StrE qS296 2 (fun j => ([32, 58] : List Int32).getD j 0)) A s s.heap).kept hS.2.1).narrow (fun q h => hFc q h)).warm hW⟩⟩ rfl rfl hl.1 rfl (lv_room (Nat.le_of_ble_eq_true rfl)) dX11_putRow_16 ⟨by first | decide +kernel | (dsimp only [headSpec] <;> omega), by first | decide +kernel | (dsimp only [headSpec] <;> omega)⟩) hS (fun q _ h => hFc q h) hFc (fun u t9_ H locs ht hvm hw9 hB9 hz1 hk1 hS => ?_)
  revert u hw9 hB9
  refine fz_p4 ?_
  intro fX_sheet_3 dX_sheet_3 nX_sheet_3 iX_sheetLength_3 hw9 hB9
  try dsimp only at hw9 hB9
  revert hw9
  refine fz_a6 ?_
  intro b_fX_sheet_3 b_nX_sheet_3 b_iX_sheetLength_3 b_shl_3 f3_0 f3_1
  have hg1 := hB9.1.2.2.1
  rw [ht] at hg1
  have hg2 := hB9.1.2.2.2
  rw [ht] at hg2
  have hSz := hB9.2
  rw [ht] at hSz
  have p8 := cj_2_0 (WX hX aX kX hT hM fX_ready fX_sheet_3 dX_sheet_3 nX_sheet_3 iX_sheetLength_3 xX_reader xX_solver xX_prover xX_values xX_clauses xX_nets) (WM hM aM kM iM_stands iM_variables iM_rows iM_goals iM_differents iM_cases fM_from fM_to fM_whole fM_ways iM_plainRows fM_plainRow fM_kept fM_goalOver fM_goalUnder fM_goalMax fM_different)
  obtain ⟨hP, hD⟩ := frameG p9 p8 hP hD hk1 hFc (fz_P ht hB9.1.1) hB9.1.2.1
  have hz9 : H.size ≤ s.heap.size + (nX_sheet_3 / 32 - (nX_sheet / 32)) := by (try dsimp only at hg1); omega
  have hn9 : nS s.heap.size H ≤ (2 * nX_sheet_3 - (2 * nX_sheet)) := by rw [hSz.n hS0]; (try dsimp only at hg2); omega
  refine W.tight (cells2 := (nX_sheet_3 / 32 - (nX_sheet / 32))) (slots2 := (2 * nX_sheet_3 - (2 * nX_sheet))) hz9 hn9 ?_
  clear hz9 hn9 hz0 hn0 hS0 hSz hg1 hg2
  refine lv_iconst (v := 0) hx hb dX11_putRow_19 (by decide) ?_
  refine lv_istore_n hx hb dX11_putRow_20 rfl hl (by decide) rfl (fun ls (hl : lv_has ls _ ([(2, .int 0), (0, .ref (hX 0)), (1, .int p1)])) => ?_)
  have hl : lv_has _ _ ([(2, .int 0), (0, .ref (hX 0)), (1, .int p1)]) := lv_sub hl [0, 1, 2] rfl
  refine (fun (loop : ∀ (n9 : Nat) (fX_sheet_x21 : Nat → Int32) (dX_sheet_x21 : Nat) (nX_sheet_x21 : Nat) (iX_sheetLength_x21 : Int32) (l2_x21 : Int32) (H : Heap) (locs : List Loc) (ls : Array Slot), (∀ q : Nat, (-128) ≤ (fX_sheet_x21 q).toInt ∧ (fX_sheet_x21 q).toInt ≤ 127) → (64 ≤ nX_sheet_x21 ∧ nX_sheet_x21 ≤ 60000) → (0 ≤ iX_sheetLength_x21.toInt ∧ iX_sheetLength_x21.toInt ≤ 30000) → (0 ≤ l2_x21.toInt ∧ l2_x21.toInt ≤ 3) → (iX_sheetLength_x21.toInt ≤ ((nX_sheet_x21 : Nat) : Int)) → (iX_sheetLength.toInt ≤ iX_sheetLength_x21.toInt) → (nX_sheet ≤ nX_sheet_x21) → (3 - l2_x21.toInt < ((n9 : Nat) : Int)) → va_P (dC, dI) vwCl (WX hX aX kX hT hM fX_ready fX_sheet_x21 dX_sheet_x21 nX_sheet_x21 iX_sheetLength_x21 xX_reader xX_solver xX_prover xX_values xX_clauses xX_nets ++ (WM hM aM kM iM_stands iM_variables iM_rows iM_goals iM_differents iM_cases fM_from fM_to fM_whole fM_ways iM_plainRows fM_plainRow fM_kept fM_goalOver fM_goalUnder fM_goalMax fM_different)) H → va_D A (WX hX aX kX hT hM fX_ready fX_sheet_x21 dX_sheet_x21 nX_sheet_x21 iX_sheetLength_x21 xX_reader xX_solver xX_prover xX_values xX_clauses xX_nets ++ (WM hM aM kM iM_stands iM_variables iM_rows iM_goals iM_differents iM_cases fM_from fM_to fM_whole fM_ways iM_plainRows fM_plainRow fM_kept fM_goalOver fM_goalUnder fM_goalMax fM_different)) → va_S A s.heap H locs → lv_has ls 3 [(2, .int l2_x21), (0, .ref (hX 0)), (1, .int p1)] → W p l e _ s m _ below meth c H locs (nX_sheet_x21 / 32 - (nX_sheet / 32)) (2 * nX_sheet_x21 - (2 * nX_sheet)) _ (F0 m 21 ls [])) => loop (4) fX_sheet_3 dX_sheet_3 nX_sheet_3 iX_sheetLength_3 0 _ _ _ b_fX_sheet_3 (by first | exact b_nX_sheet_3 | with_reducible assumption | exact ⟨by omega, by omega⟩ | assumption) (b_iX_sheetLength_3) (show 0 ≤ (0 : Int32).toInt ∧ (0 : Int32).toInt ≤ 3 from by decide) (by first | with_reducible assumption | omega | (rw [iI_t (by omega) (by omega)]; omega) | (have h7 : (0 : Int32).toInt = 0 := (by decide); omega)) (show iX_sheetLength.toInt ≤ iX_sheetLength_3.toInt from by omega) (show nX_sheet ≤ nX_sheet_3 from by omega) ((by have e9 : (0 : Int32).toInt = 0 := (by decide : (0 : Int32).toInt = 0); omega)) hP hD hS hl) ?_
  intro n9
  induction n9 with
  | zero => intro fX_sheet_x21 dX_sheet_x21 nX_sheet_x21 iX_sheetLength_x21 l2_x21 H locs ls b_fX_sheet_x21 b_nX_sheet_x21 b_iX_sheetLength_x21 b_l2_x21 b_shl_x21 hlx hgm0_x21 hf9; exact False.elim (by omega)
  | succ n9 ihx21 =>
    intro fX_sheet_x21 dX_sheet_x21 nX_sheet_x21 iX_sheetLength_x21 l2_x21 H locs ls b_fX_sheet_x21 b_nX_sheet_x21 b_iX_sheetLength_x21 b_l2_x21 b_shl_x21 hlx hgm0_x21 hfx21 hP hD hS hl
    refine lv_iload_n hx hb dX11_putRow_21 rfl (lv_at hl 0 rfl) ?_
    refine lv_aload_n hx hb dX11_putRow_22 rfl (lv_at hl 1 rfl) ?_
    refine va_get (D := (dC, dI)) (ci := 11) (v := .ref (hM 0)) (C := RX11) (T := TX11) (N := 11) hx hb hts iwsMX11_putRow_in11 hown hK hP 0 rfl rfl 2 (by decide) (hts (.fieldLink RX11 23 "OptimaWorks" "model" "LOptimaWorks$Model;") (by decide +kernel)) (fun _ h9 => h9) rfl dX11_putRow_23 ?_
    refine va_get (D := (dC, dI)) (ci := 1) (v := .ref (aM 3)) (C := RX1) (T := TX1) (N := 17) hx hb hts iwsMX11_putRow_in1 hown hK hP 3 rfl rfl 9 (by decide) (hts (.fieldLink RX11 109 "OptimaWorks$Model" "ways" "[I") (by decide +kernel)) (fun _ h9 => h9) rfl dX11_putRow_26 ?_
    refine lv_iload_n hx hb dX11_putRow_29 rfl (lv_at hl 2 rfl) ?_
    refine va_iald (cA := kM 3) (n := 12) (f := fM_ways) hx hb hK hP 7 5 rfl rfl (vp_in_iff.mpr ⟨b_p1.1, (Int.lt_of_le_of_lt (b_p1.2) (by decide))⟩) dX11_putRow_30 ?_
    refine lv_topi (fun v16 hv16 => ?_)
    have b_v16 : 0 ≤ v16.toInt ∧ v16.toInt ≤ 3 := by rw [hv16]; exact b_fM_ways _
    clear hv16
    refine lv_icmp_ge (tgt := 57) hx hb dX11_putRow_31 (by decide) (fun c_31 => ?_) (fun c_31 => ?_)
    · have t_31 : l2_x21.toInt ≥ v16.toInt := toI_ge c_31 rfl rfl
      refine lv_aload_n hx hb dX11_putRow_57 rfl (lv_at hl 1 rfl) ?_
      obtain ⟨qS292, hR292, hSS292⟩ := hE.2.2.2 4 _ rfl
      refine lv_ldcwS hx hb hown hR292 dX11_putRow_58 ?_
      refine W.known (fun hz0 hn0 => ?_)
      have hS0 := hS.1
      have p9 := cj_2_0 (WX hX aX kX hT hM fX_ready fX_sheet_x21 dX_sheet_x21 nX_sheet_x21 iX_sheetLength_x21 xX_reader xX_solver xX_prover xX_values xX_clauses xX_nets) (WM hM aM kM iM_stands iM_variables iM_rows iM_goals iM_differents iM_cases fM_from fM_to fM_whole fM_ways iM_plainRows fM_plainRow fM_kept fM_goalOver fM_goalUnder fM_goalMax fM_different)
      have hPc := hP.mem (fun q h => p9.mem_iff.mpr (List.mem_append_left _ h))
      have hDc := (hD.perm p9).left
      have hKc : va_K (dC, dI) vwCl (tX kX) _ := hK.sub [0, 1] rfl
      have hFc := freeG p9 hD hS hA
      refine va_callv (va_runV (As := [.ref qS292]) (rest := []) ⟨hx, hb, hml, hown, hts⟩ (Met.sV (m_X11_putText l dC dI hX aX kX hT hM fX_ready fX_sheet_x21 dX_sheet_x21 nX_sheet_x21 iX_sheetLength_x21 xX_reader xX_solver xX_prover xX_values xX_clauses xX_nets qS292 3 (fun j => ([32, 59, 10] : List Int32).getD j 0) b_fX_sheet_x21 (by first | exact b_nX_sheet_x21 | with_reducible assumption | exact ⟨by omega, by omega⟩ | assumption) (b_iX_sheetLength_x21) (by first | with_reducible assumption | omega | (rw [iI_t (by omega) (by omega)]; omega) | (have h7 : (0 : Int32).toInt = 0 := (by decide); omega)) (by decide) H.size) H) (cwV 1 hts gwsMX11_putRow_0 rfl rfl rfl (by decide +kernel) ⟨by first | decide +kernel | (dsimp only [headSpec] <;> omega), by first | decide +kernel | (dsimp only [headSpec] <;> omega)⟩) ⟨fun a U g mk q => by obtain ⟨q0, qh, q1, qP, qK, qD, qE⟩ := q; exact ⟨q0, qh, q1, qP, va_K.moved (u := U) (U := U.calling g mk a) (Vm.Alike.refl U.vm) qK, qD, qE.same rfl⟩, va_recv hK hP (ci := 11) (q0 := 0) rfl rfl, fun U hU9 hW => ⟨rfl, hU9, by rw [hU9], by rw [hU9]; exact hPc, va_K.moved hW.alike hKc, hDc.weaken (fun _ _ _ _ => trivial), by rw [hU9]; exact (((hSS292 : (StrE qS292 3 (fun j => ([32, 59, 10] : List Int32).getD j 0)) A s s.heap).kept hS.2.1).narrow (fun q h => hFc q h)).warm hW⟩⟩ rfl rfl hl.1 rfl (lv_room (Nat.le_of_ble_eq_true rfl)) dX11_putRow_61 ⟨by first | decide +kernel | (dsimp only [headSpec] <;> omega), by first | decide +kernel | (dsimp only [headSpec] <;> omega)⟩) hS (fun q _ h => hFc q h) hFc (fun u t9_ H locs ht hvm hw9 hB9 hz1 hk1 hS => ?_)
      revert u hw9 hB9
      refine fz_p4 ?_
      intro fX_sheet_20 dX_sheet_20 nX_sheet_20 iX_sheetLength_20 hw9 hB9
      try dsimp only at hw9 hB9
      revert hw9
      refine fz_a6 ?_
      intro b_fX_sheet_20 b_nX_sheet_20 b_iX_sheetLength_20 b_shl_20 f20_0 f20_1
      have hg1 := hB9.1.2.2.1
      rw [ht] at hg1
      have hg2 := hB9.1.2.2.2
      rw [ht] at hg2
      have hSz := hB9.2
      rw [ht] at hSz
      have p8 := cj_2_0 (WX hX aX kX hT hM fX_ready fX_sheet_20 dX_sheet_20 nX_sheet_20 iX_sheetLength_20 xX_reader xX_solver xX_prover xX_values xX_clauses xX_nets) (WM hM aM kM iM_stands iM_variables iM_rows iM_goals iM_differents iM_cases fM_from fM_to fM_whole fM_ways iM_plainRows fM_plainRow fM_kept fM_goalOver fM_goalUnder fM_goalMax fM_different)
      obtain ⟨hP, hD⟩ := frameG p9 p8 hP hD hk1 hFc (fz_P ht hB9.1.1) hB9.1.2.1
      have hz9 : H.size ≤ s.heap.size + (nX_sheet_20 / 32 - (nX_sheet / 32)) := by (try dsimp only at hg1); omega
      have hn9 : nS s.heap.size H ≤ (2 * nX_sheet_20 - (2 * nX_sheet)) := by rw [hSz.n hS0]; (try dsimp only at hg2); omega
      refine W.tight (cells2 := (nX_sheet_20 / 32 - (nX_sheet / 32))) (slots2 := (2 * nX_sheet_20 - (2 * nX_sheet))) hz9 hn9 ?_
      clear hz9 hn9 hz0 hn0 hS0 hSz hg1 hg2
      refine W.known (fun hz9 hn9 => ?_)
      refine W.widen (k := 11251) (n := 780000) (by omega) (by omega) ?_
      exact W.vret hx hb hr (fun t9_ ht hW => ⟨⟨(fX_sheet_20, dX_sheet_20, nX_sheet_20, iX_sheetLength_20), rfl, ⟨b_fX_sheet_20, (by (try dsimp only); exact (by first | exact b_nX_sheet_20 | with_reducible assumption | exact ⟨by omega, by omega⟩ | assumption)), b_iX_sheetLength_20, (by (try dsimp only); exact (by first | with_reducible assumption | omega | (rw [iI_t (by omega) (by omega)]; omega) | (have h7 : (0 : Int32).toInt = 0 := (by decide); omega))), (by (try dsimp only); omega), (by (try dsimp only); first | omega | (rw [iI_t (by omega) (by omega)]; omega))⟩, by rw [ht]; exact hP, hD, by rw [ht]; (try dsimp only); omega, by rw [ht]; (try dsimp only); omega⟩, hS.F ht⟩) hS.2.2 dX11_putRow_64
    · have t_31 : ¬ l2_x21.toInt ≥ v16.toInt := toI_nge c_31 rfl rfl
      refine lv_iload_n hx hb dX11_putRow_34 rfl (lv_at hl 0 rfl) ?_
      refine W.known (fun hzk hnk => ?_)
      refine W.widen (k := 1875) (n := 120000) (by omega) (by omega) ?_
      refine W.cut (pc := 45) (fun H locs ls stk => ∃ (fX_sheet_j8 : Nat → Int32) (dX_sheet_j8 : Nat) (nX_sheet_j8 : Nat) (iX_sheetLength_j8 : Int32), (∀ q : Nat, (-128) ≤ (fX_sheet_j8 q).toInt ∧ (fX_sheet_j8 q).toInt ≤ 127) ∧ (64 ≤ nX_sheet_j8 ∧ nX_sheet_j8 ≤ 60000) ∧ (0 ≤ iX_sheetLength_j8.toInt ∧ iX_sheetLength_j8.toInt ≤ 30000) ∧ (iX_sheetLength_j8.toInt ≤ ((nX_sheet_j8 : Nat) : Int)) ∧ (iX_sheetLength.toInt ≤ iX_sheetLength_j8.toInt) ∧ (nX_sheet ≤ nX_sheet_j8) ∧ (H.size + (nX_sheet / 32) ≤ s.heap.size + (nX_sheet_j8 / 32) ∧ nS s.heap.size H + (2 * nX_sheet) ≤ (2 * nX_sheet_j8)) ∧  stk = [] ∧ va_P (dC, dI) vwCl (WX hX aX kX hT hM fX_ready fX_sheet_j8 dX_sheet_j8 nX_sheet_j8 iX_sheetLength_j8 xX_reader xX_solver xX_prover xX_values xX_clauses xX_nets ++ (WM hM aM kM iM_stands iM_variables iM_rows iM_goals iM_differents iM_cases fM_from fM_to fM_whole fM_ways iM_plainRows fM_plainRow fM_kept fM_goalOver fM_goalUnder fM_goalMax fM_different)) H ∧ va_D A (WX hX aX kX hT hM fX_ready fX_sheet_j8 dX_sheet_j8 nX_sheet_j8 iX_sheetLength_j8 xX_reader xX_solver xX_prover xX_values xX_clauses xX_nets ++ (WM hM aM kM iM_stands iM_variables iM_rows iM_goals iM_differents iM_cases fM_from fM_to fM_whole fM_ways iM_plainRows fM_plainRow fM_kept fM_goalOver fM_goalUnder fM_goalMax fM_different)) ∧ va_S A s.heap H locs ∧ lv_has ls 3 [(2, .int l2_x21), (0, .ref (hX 0)), (1, .int p1)]) (fun join8 => ?_) ?_
      · refine W.tight (cells2 := (nX_sheet_x21 / 32 - (nX_sheet / 32))) (slots2 := (2 * nX_sheet_x21 - (2 * nX_sheet))) hzk hnk ?_
        refine lv_if_le (tgt := 45) hx hb dX11_putRow_35 (by decide) (fun c_35 => ?_) (fun c_35 => ?_)
        · have t_35 : l2_x21.toInt ≤ 0 := toI_le c_35 rfl (by decide : (0 : Int32).toInt = 0)
          have hl : lv_has _ _ ([(2, .int l2_x21), (0, .ref (hX 0)), (1, .int p1)]) := lv_sub hl [0, 1, 2] rfl
          refine W.known (fun hza hna => ?_)
          refine W.widen (k := 1875) (n := 120000) (by omega) (by omega) ?_
          exact join8 _ _ _ _ ⟨fX_sheet_x21, dX_sheet_x21, nX_sheet_x21, iX_sheetLength_x21, b_fX_sheet_x21, (by first | exact b_nX_sheet_x21 | with_reducible assumption | exact ⟨by omega, by omega⟩ | assumption), (b_iX_sheetLength_x21), (by first | with_reducible assumption | omega | (rw [iI_t (by omega) (by omega)]; omega) | (have h7 : (0 : Int32).toInt = 0 := (by decide); omega)), (show iX_sheetLength.toInt ≤ iX_sheetLength_x21.toInt from by omega), (show nX_sheet ≤ nX_sheet_x21 from by omega), ⟨by omega, by omega⟩, rfl, hP, hD, hS, hl⟩
        · have t_35 : ¬ l2_x21.toInt ≤ 0 := toI_nle c_35 rfl (by decide : (0 : Int32).toInt = 0)
          refine lv_aload_n hx hb dX11_putRow_38 rfl (lv_at hl 1 rfl) ?_
          obtain ⟨qS298, hR298, hSS298⟩ := hE.2.2.2 7 _ rfl
          refine lv_ldcwS hx hb hown hR298 dX11_putRow_39 ?_
          refine W.known (fun hz0 hn0 => ?_)
          have hS0 := hS.1
          have p9 := cj_2_0 (WX hX aX kX hT hM fX_ready fX_sheet_x21 dX_sheet_x21 nX_sheet_x21 iX_sheetLength_x21 xX_reader xX_solver xX_prover xX_values xX_clauses xX_nets) (WM hM aM kM iM_stands iM_variables iM_rows iM_goals iM_differents iM_cases fM_from fM_to fM_whole fM_ways iM_plainRows fM_plainRow fM_kept fM_goalOver fM_goalUnder fM_goalMax fM_different)
          have hPc := hP.mem (fun q h => p9.mem_iff.mpr (List.mem_append_left _ h))
          have hDc := (hD.perm p9).left
          have hKc : va_K (dC, dI) vwCl (tX kX) _ := hK.sub [0, 1] rfl
          have hFc := freeG p9 hD hS hA
          refine va_callv (va_runV (As := [.ref qS298]) (rest := []) ⟨hx, hb, hml, hown, hts⟩ (Met.sV (m_X11_putText l dC dI hX aX kX hT hM fX_ready fX_sheet_x21 dX_sheet_x21 nX_sheet_x21 iX_sheetLength_x21 xX_reader xX_solver xX_prover xX_values xX_clauses xX_nets qS298 3 (fun j => ([32, 111, 114] : List Int32).getD j 0) b_fX_sheet_x21 (by first | exact b_nX_sheet_x21 | with_reducible assumption | exact ⟨by omega, by omega⟩ | assumption) (b_iX_sheetLength_x21) (by first | with_reducible assumption | omega | (rw [iI_t (by omega) (by omega)]; omega) | (have h7 : (0 : Int32).toInt = 0 := (by decide); omega)) (by decide) H.size) H) (cwV 1 hts gwsMX11_putRow_0 rfl rfl rfl (by decide +kernel) ⟨by first | decide +kernel | (dsimp only [headSpec] <;> omega), by first | decide +kernel | (dsimp only [headSpec] <;> omega)⟩) ⟨fun a U g mk q => by obtain ⟨q0, qh, q1, qP, qK, qD, qE⟩ := q; exact ⟨q0, qh, q1, qP, va_K.moved (u := U) (U := U.calling g mk a) (Vm.Alike.refl U.vm) qK, qD, qE.same rfl⟩, va_recv hK hP (ci := 11) (q0 := 0) rfl rfl, fun U hU9 hW => ⟨rfl, hU9, by rw [hU9], by rw [hU9]; exact hPc, va_K.moved hW.alike hKc, hDc.weaken (fun _ _ _ _ => trivial), by rw [hU9]; exact (((hSS298 : (StrE qS298 3 (fun j => ([32, 111, 114] : List Int32).getD j 0)) A s s.heap).kept hS.2.1).narrow (fun q h => hFc q h)).warm hW⟩⟩ rfl rfl hl.1 rfl (lv_room (Nat.le_of_ble_eq_true rfl)) dX11_putRow_42 ⟨by first | decide +kernel | (dsimp only [headSpec] <;> omega), by first | decide +kernel | (dsimp only [headSpec] <;> omega)⟩) hS (fun q _ h => hFc q h) hFc (fun u t9_ H locs ht hvm hw9 hB9 hz1 hk1 hS => ?_)
          revert u hw9 hB9
          refine fz_p4 ?_
          intro fX_sheet_22 dX_sheet_22 nX_sheet_22 iX_sheetLength_22 hw9 hB9
          try dsimp only at hw9 hB9
          revert hw9
          refine fz_a6 ?_
          intro b_fX_sheet_22 b_nX_sheet_22 b_iX_sheetLength_22 b_shl_22 f22_0 f22_1
          have hg1 := hB9.1.2.2.1
          rw [ht] at hg1
          have hg2 := hB9.1.2.2.2
          rw [ht] at hg2
          have hSz := hB9.2
          rw [ht] at hSz
          have p8 := cj_2_0 (WX hX aX kX hT hM fX_ready fX_sheet_22 dX_sheet_22 nX_sheet_22 iX_sheetLength_22 xX_reader xX_solver xX_prover xX_values xX_clauses xX_nets) (WM hM aM kM iM_stands iM_variables iM_rows iM_goals iM_differents iM_cases fM_from fM_to fM_whole fM_ways iM_plainRows fM_plainRow fM_kept fM_goalOver fM_goalUnder fM_goalMax fM_different)
          obtain ⟨hP, hD⟩ := frameG p9 p8 hP hD hk1 hFc (fz_P ht hB9.1.1) hB9.1.2.1
          have hz9 : H.size ≤ s.heap.size + (nX_sheet_22 / 32 - (nX_sheet / 32)) := by (try dsimp only at hg1); omega
          have hn9 : nS s.heap.size H ≤ (2 * nX_sheet_22 - (2 * nX_sheet)) := by rw [hSz.n hS0]; (try dsimp only at hg2); omega
          refine W.tight (cells2 := (nX_sheet_22 / 32 - (nX_sheet / 32))) (slots2 := (2 * nX_sheet_22 - (2 * nX_sheet))) hz9 hn9 ?_
          clear hz9 hn9 hz0 hn0 hS0 hSz hg1 hg2
          have hl : lv_has _ _ ([(2, .int l2_x21), (0, .ref (hX 0)), (1, .int p1)]) := lv_sub hl [0, 1, 2] rfl
          refine W.known (fun hza hna => ?_)
          refine W.widen (k := 1875) (n := 120000) (by omega) (by omega) ?_
          exact join8 _ _ _ _ ⟨fX_sheet_22, dX_sheet_22, nX_sheet_22, iX_sheetLength_22, b_fX_sheet_22, (by first | exact b_nX_sheet_22 | with_reducible assumption | exact ⟨by omega, by omega⟩ | assumption), (b_iX_sheetLength_22), (by first | with_reducible assumption | omega | (rw [iI_t (by omega) (by omega)]; omega) | (have h7 : (0 : Int32).toInt = 0 := (by decide); omega)), (show iX_sheetLength.toInt ≤ iX_sheetLength_22.toInt from by omega), (show nX_sheet ≤ nX_sheet_22 from by omega), ⟨by omega, by omega⟩, rfl, hP, hD, hS, hl⟩
      · intro H locs ls stk
        refine fz_e4 ?_
        intro fX_sheet_j8 dX_sheet_j8 nX_sheet_j8 iX_sheetLength_j8
        refine fz_a12 ?_
        intro b_fX_sheet_j8 b_nX_sheet_j8 b_iX_sheetLength_j8 b_shl_j8 hjx hgm0_j8 hzn9_6 hst9_7 hP hD hS hl
        have hzj := hzn9_6.1
        have hnj := hzn9_6.2
        clear hzn9_6
        subst hst9_7
        refine W.tight (cells2 := (nX_sheet_j8 / 32 - (nX_sheet / 32))) (slots2 := (2 * nX_sheet_j8 - (2 * nX_sheet))) (tg1 hzj hS.1) (tg2 hnj) ?_
        refine lv_aload_n hx hb dX11_putRow_45 rfl (lv_at hl 1 rfl) ?_
        refine lv_iload_n hx hb dX11_putRow_46 rfl (lv_at hl 2 rfl) ?_
        refine lv_iload_n hx hb dX11_putRow_47 rfl (lv_at hl 0 rfl) ?_
        refine W.known (fun hz0 hn0 => ?_)
        have hS0 := hS.1
        have hFc := allFree hD hS hA
        refine va_callv (va_runV (As := [.int p1, .int l2_x21]) (rest := []) ⟨hx, hb, hml, hown, hts⟩ (Met.sV (m_X11_putWay l hst dC dI hX aX kX hT hM fX_ready fX_sheet_j8 dX_sheet_j8 nX_sheet_j8 iX_sheetLength_j8 xX_reader xX_solver xX_prover xX_values xX_clauses xX_nets aM kM iM_stands iM_variables iM_rows iM_goals iM_differents iM_cases fM_from fM_to fM_whole fM_ways iM_plainRows fM_plainRow fM_kept fM_goalOver fM_goalUnder fM_goalMax fM_different p1 l2_x21 b_fX_sheet_j8 (by first | exact b_nX_sheet_j8 | with_reducible assumption | exact ⟨by omega, by omega⟩ | assumption) (b_iX_sheetLength_j8) (by first | with_reducible assumption | omega | (rw [iI_t (by omega) (by omega)]; omega) | (have h7 : (0 : Int32).toInt = 0 := (by decide); omega)) (b_iM_stands) (b_iM_variables) (b_iM_rows) (b_iM_goals) (b_iM_differents) (b_iM_cases) b_fM_ways (b_iM_plainRows) b_fM_plainRow (by first | with_reducible assumption | omega | assumption) (b_p1) (by first | exact b_l2_x21 | with_reducible assumption | exact ⟨by omega, by omega⟩ | assumption) H.size) H) (cwV 2 hts gwsMX11_putRow_2 rfl rfl rfl (by decide +kernel) ⟨by first | decide +kernel | (dsimp only [headSpec] <;> omega), by first | decide +kernel | (dsimp only [headSpec] <;> omega)⟩) ⟨fun a U g mk q => by obtain ⟨q0, qh, q1, qP, qK, qD, qE⟩ := q; exact ⟨q0, qh, q1, qP, va_K.moved (u := U) (U := U.calling g mk a) (Vm.Alike.refl U.vm) qK, qD, qE.call⟩, va_recv hK hP (ci := 11) (q0 := 0) rfl rfl, fun U hU9 hW => ⟨rfl, hU9, by rw [hU9], by rw [hU9]; exact hP, va_K.moved hW.alike hK, hD.weaken (fun _ _ _ _ => trivial), by rw [hU9]; exact (((hE : CE A s s.heap).kept hS.2.1).narrow (fun q h => hFc q h)).warm hW⟩⟩ rfl rfl hl.1 rfl (lv_room (Nat.le_of_ble_eq_true rfl)) dX11_putRow_48 ⟨by first | decide +kernel | (dsimp only [headSpec] <;> omega), by first | decide +kernel | (dsimp only [headSpec] <;> omega)⟩) hS (fun q _ h => hFc q h) hFc (fun u t9_ H locs ht hvm hw9 hB9 hz1 hk1 hS => ?_)
        revert u hw9 hB9
        refine fz_p4 ?_
        intro fX_sheet_23 dX_sheet_23 nX_sheet_23 iX_sheetLength_23 hw9 hB9
        try dsimp only at hw9 hB9
        revert hw9
        refine fz_a6 ?_
        intro b_fX_sheet_23 b_nX_sheet_23 b_iX_sheetLength_23 b_shl_23 f23_0 f23_1
        have hg1 := hB9.1.2.2.1
        rw [ht] at hg1
        have hg2 := hB9.1.2.2.2
        rw [ht] at hg2
        have hSz := hB9.2
        rw [ht] at hSz
        have hP : va_P (dC, dI) vwCl (WX hX aX kX hT hM fX_ready fX_sheet_23 dX_sheet_23 nX_sheet_23 iX_sheetLength_23 xX_reader xX_solver xX_prover xX_values xX_clauses xX_nets ++ (WM hM aM kM iM_stands iM_variables iM_rows iM_goals iM_differents iM_cases fM_from fM_to fM_whole fM_ways iM_plainRows fM_plainRow fM_kept fM_goalOver fM_goalUnder fM_goalMax fM_different)) H := fz_P ht hB9.1.1
        have hD := fz_sd hP (hB9.1.2.1.weaken (fun _ q _ h => hFc q.1 h)) rfl
        have hz9 : H.size ≤ s.heap.size + (nX_sheet_23 / 32 - (nX_sheet / 32)) := by (try dsimp only at hg1); omega
        have hn9 : nS s.heap.size H ≤ (2 * nX_sheet_23 - (2 * nX_sheet)) := by rw [hSz.n hS0]; (try dsimp only at hg2); omega
        refine W.tight (cells2 := (nX_sheet_23 / 32 - (nX_sheet / 32))) (slots2 := (2 * nX_sheet_23 - (2 * nX_sheet))) hz9 hn9 ?_
        clear hz9 hn9 hz0 hn0 hS0 hSz hg1 hg2
        refine lv_iinc (v := (iI (l2_x21.toInt + 1))) hx hb dX11_putRow_51 hl (k := 0) rfl (iI_add2 (iI_of _) (by decide : (1 : Int32) = iI 1)) (by decide) rfl (fun ls (hl : lv_has ls _ ([(2, .int (iI (l2_x21.toInt + 1))), (0, .ref (hX 0)), (1, .int p1)])) => ?_)
        refine lv_goto (tgt := 21) hx hb dX11_putRow_54 (by decide) ?_
        have hl : lv_has _ _ ([(2, .int (iI (l2_x21.toInt + 1))), (0, .ref (hX 0)), (1, .int p1)]) := lv_sub hl [0, 1, 2] rfl
        exact ihx21 fX_sheet_23 dX_sheet_23 nX_sheet_23 iX_sheetLength_23 (iI (l2_x21.toInt + 1)) _ _ _ b_fX_sheet_23 (by first | exact b_nX_sheet_23 | with_reducible assumption | exact ⟨by omega, by omega⟩ | assumption) (b_iX_sheetLength_23) (iI_rng (Int.le_trans (by decide) (Int.add_le_add (b_l2_x21.1) (Int.le_refl _))) (by omega) (by decide) (by decide)) (by first | with_reducible assumption | omega | (rw [iI_t (by omega) (by omega)]; omega) | (have h7 : (0 : Int32).toInt = 0 := (by decide); omega)) (show iX_sheetLength.toInt ≤ iX_sheetLength_23.toInt from by omega) (show nX_sheet ≤ nX_sheet_23 from by omega) (by have e9 : ((iI (l2_x21.toInt + 1))).toInt = (l2_x21.toInt + 1) := (iI_t (Int.le_trans (by decide) (Int.add_le_add (b_l2_x21.1) (Int.le_refl _))) (Int.le_trans (Int.add_le_add (b_l2_x21.2) (Int.le_refl _)) (by decide))); omega) hP hD hS hl
theorem dX11_putVariable_0 : decode cX11_putVariable 0 = .ok (.aload_n 0, 1) := dk_42 (by decide +kernel)
theorem dX11_putVariable_1 : decode cX11_putVariable 1 = .ok (.ldc_w 277, 3) := dk_19 (by decide +kernel)
theorem dX11_putVariable_4 : decode cX11_putVariable 4 = .ok (.invokevirtual 279, 3) := dk_182 (by decide +kernel)
theorem dX11_putVariable_7 : decode cX11_putVariable 7 = .ok (.aload_n 0, 1) := dk_42 (by decide +kernel)
theorem dX11_putVariable_8 : decode cX11_putVariable 8 = .ok (.iload_n 1, 1) := dk_27 (by decide +kernel)
theorem dX11_putVariable_9 : decode cX11_putVariable 9 = .ok (.invokevirtual 283, 3) := dk_182 (by decide +kernel)
theorem dX11_putVariable_12 : decode cX11_putVariable 12 = .ok (.aload_n 0, 1) := dk_42 (by decide +kernel)
theorem dX11_putVariable_13 : decode cX11_putVariable 13 = .ok (.getfield 23, 3) := dk_180 (by decide +kernel)
theorem dX11_putVariable_16 : decode cX11_putVariable 16 = .ok (.getfield 102, 3) := dk_180 (by decide +kernel)
theorem dX11_putVariable_19 : decode cX11_putVariable 19 = .ok (.iload_n 1, 1) := dk_27 (by decide +kernel)
theorem dX11_putVariable_20 : decode cX11_putVariable 20 = .ok (.baload, 1) := dk_51 (by decide +kernel)
theorem dX11_putVariable_21 : decode cX11_putVariable 21 = .ok (.ifCond .eq 10, 3) := dk_153 (by decide +kernel)
theorem dX11_putVariable_24 : decode cX11_putVariable 24 = .ok (.aload_n 0, 1) := dk_42 (by decide +kernel)
theorem dX11_putVariable_25 : decode cX11_putVariable 25 = .ok (.ldc_w 286, 3) := dk_19 (by decide +kernel)
theorem dX11_putVariable_28 : decode cX11_putVariable 28 = .ok (.invokevirtual 279, 3) := dk_182 (by decide +kernel)
theorem dX11_putVariable_31 : decode cX11_putVariable 31 = .ok (.aload_n 0, 1) := dk_42 (by decide +kernel)
theorem dX11_putVariable_32 : decode cX11_putVariable 32 = .ok (.ldc_w 288, 3) := dk_19 (by decide +kernel)
theorem dX11_putVariable_35 : decode cX11_putVariable 35 = .ok (.invokevirtual 279, 3) := dk_182 (by decide +kernel)
theorem dX11_putVariable_38 : decode cX11_putVariable 38 = .ok (.aload_n 0, 1) := dk_42 (by decide +kernel)
theorem dX11_putVariable_39 : decode cX11_putVariable 39 = .ok (.aload_n 0, 1) := dk_42 (by decide +kernel)
theorem dX11_putVariable_40 : decode cX11_putVariable 40 = .ok (.getfield 23, 3) := dk_180 (by decide +kernel)
theorem dX11_putVariable_43 : decode cX11_putVariable 43 = .ok (.getfield 96, 3) := dk_180 (by decide +kernel)
theorem dX11_putVariable_46 : decode cX11_putVariable 46 = .ok (.iload_n 1, 1) := dk_27 (by decide +kernel)
theorem dX11_putVariable_47 : decode cX11_putVariable 47 = .ok (.iaload, 1) := dk_46 (by decide +kernel)
theorem dX11_putVariable_48 : decode cX11_putVariable 48 = .ok (.invokevirtual 283, 3) := dk_182 (by decide +kernel)
theorem dX11_putVariable_51 : decode cX11_putVariable 51 = .ok (.aload_n 0, 1) := dk_42 (by decide +kernel)
theorem dX11_putVariable_52 : decode cX11_putVariable 52 = .ok (.ldc_w 290, 3) := dk_19 (by decide +kernel)
theorem dX11_putVariable_55 : decode cX11_putVariable 55 = .ok (.invokevirtual 279, 3) := dk_182 (by decide +kernel)
theorem dX11_putVariable_58 : decode cX11_putVariable 58 = .ok (.aload_n 0, 1) := dk_42 (by decide +kernel)
theorem dX11_putVariable_59 : decode cX11_putVariable 59 = .ok (.aload_n 0, 1) := dk_42 (by decide +kernel)
theorem dX11_putVariable_60 : decode cX11_putVariable 60 = .ok (.getfield 23, 3) := dk_180 (by decide +kernel)
theorem dX11_putVariable_63 : decode cX11_putVariable 63 = .ok (.getfield 99, 3) := dk_180 (by decide +kernel)
theorem dX11_putVariable_66 : decode cX11_putVariable 66 = .ok (.iload_n 1, 1) := dk_27 (by decide +kernel)
theorem dX11_putVariable_67 : decode cX11_putVariable 67 = .ok (.iaload, 1) := dk_46 (by decide +kernel)
theorem dX11_putVariable_68 : decode cX11_putVariable 68 = .ok (.invokevirtual 283, 3) := dk_182 (by decide +kernel)
theorem dX11_putVariable_71 : decode cX11_putVariable 71 = .ok (.aload_n 0, 1) := dk_42 (by decide +kernel)
theorem dX11_putVariable_72 : decode cX11_putVariable 72 = .ok (.ldc_w 292, 3) := dk_19 (by decide +kernel)
theorem dX11_putVariable_75 : decode cX11_putVariable 75 = .ok (.invokevirtual 279, 3) := dk_182 (by decide +kernel)
theorem dX11_putVariable_78 : decode cX11_putVariable 78 = .ok (.return_, 1) := dk_177 (by decide +kernel)
def wsMX11_putVariable : List Cond := .code yX11_putVariable cX11_putVariable 2 none :: ([.fieldLink RX11 23 "OptimaWorks" "model" "LOptimaWorks$Model;", .fieldLink RX11 102 "OptimaWorks$Model" "whole" "[Z", .fieldLink RX11 96 "OptimaWorks$Model" "from" "[I", .fieldLink RX11 99 "OptimaWorks$Model" "to" "[I"] ++ wsX10 ++ wsX110 ++ (wsV RX11 279 RX11 yX11_putText wsMX11_putText) ++ (wsV RX11 283 RX11 yX11_putNumber wsMX11_putNumber))
theorem iwsMX11_putVariable_in1 : ∀ w ∈ wsX10, w ∈ wsMX11_putVariable := fun _ h => List.mem_cons_of_mem _ (List.mem_append_left _ (List.mem_append_left _ (List.mem_append_left _ (List.mem_append_right _ h))))
theorem iwsMX11_putVariable_in11 : ∀ w ∈ wsX110, w ∈ wsMX11_putVariable := fun _ h => List.mem_cons_of_mem _ (List.mem_append_left _ (List.mem_append_left _ (List.mem_append_right _ h)))
theorem gwsMX11_putVariable_0 : GoodIn wsMX11_putVariable (wsV RX11 279 RX11 yX11_putText wsMX11_putText) := goodIn_sub (fun _ h => List.mem_cons_of_mem _ (List.mem_append_left _ (List.mem_append_right _ h))) (gdV (by decide +kernel) gdwsMX11_putText)
theorem gwsMX11_putVariable_1 : GoodIn wsMX11_putVariable (wsV RX11 283 RX11 yX11_putNumber wsMX11_putNumber) := goodIn_sub (fun _ h => List.mem_cons_of_mem _ (List.mem_append_right _ h)) (gdV (by decide +kernel) gdwsMX11_putNumber)
theorem gdwsMX11_putVariable : wsMX11_putVariable.all goodWord = true := gdC rfl (gdA (gdA (gdA (gdA (by decide +kernel : ([.fieldLink RX11 23 "OptimaWorks" "model" "LOptimaWorks$Model;", .fieldLink RX11 102 "OptimaWorks$Model" "whole" "[Z", .fieldLink RX11 96 "OptimaWorks$Model" "from" "[I", .fieldLink RX11 99 "OptimaWorks$Model" "to" "[I"] : List Cond).all goodWord = true) gdwsX10) gdwsX110) (gdV (by decide +kernel) gdwsMX11_putText)) (gdV (by decide +kernel) gdwsMX11_putNumber))
theorem hm_m_X11_putVariable_0 : (.fieldLink RX11 23 "OptimaWorks" "model" "LOptimaWorks$Model;" : Cond) ∈ wsMX11_putVariable := by decide +kernel
set_option maxHeartbeats 4000000 in
set_option maxRecDepth 100000 in
/-- a variable more -/
theorem m_X11_putVariable (l : Launch) (hst : l.stackTraces = false) (dC : Nat → ClassId) (dI : Nat → Nat → Nat) (hX : Nat → Nat) (aX : Nat → Nat) (kX : Nat → ClassId) (hT : Nat → Nat) (hM : Nat → Nat) (fX_ready : Nat → Int32) (fX_sheet : Nat → Int32) (dX_sheet : Nat) (nX_sheet : Nat) (iX_sheetLength : Int32) (xX_reader : Value) (xX_solver : Value) (xX_prover : Value) (xX_values : Value) (xX_clauses : Value) (xX_nets : Value) (aM : Nat → Nat) (kM : Nat → ClassId) (iM_stands : Int32) (iM_variables : Int32) (iM_rows : Int32) (iM_goals : Int32) (iM_differents : Int32) (iM_cases : Int32) (fM_from : Nat → Int32) (fM_to : Nat → Int32) (fM_whole : Nat → Int32) (fM_ways : Nat → Int32) (iM_plainRows : Int32) (fM_plainRow : Nat → Int32) (fM_kept : Nat → Int32) (fM_goalOver : Nat → Int32) (fM_goalUnder : Nat → Int32) (fM_goalMax : Nat → Int32) (fM_different : Nat → Int32) (p1 : Int32) (b_fX_sheet : ∀ q : Nat, (-128) ≤ (fX_sheet q).toInt ∧ (fX_sheet q).toInt ≤ 127) (b_nX_sheet : 64 ≤ nX_sheet ∧ nX_sheet ≤ 60000) (b_iX_sheetLength : 0 ≤ iX_sheetLength.toInt ∧ iX_sheetLength.toInt ≤ 30000) (b_shl : iX_sheetLength.toInt ≤ ((nX_sheet : Nat) : Int)) (b_iM_stands : 0 ≤ iM_stands.toInt ∧ iM_stands.toInt ≤ 1) (b_iM_variables : 0 ≤ iM_variables.toInt ∧ iM_variables.toInt ≤ 8) (b_iM_rows : 0 ≤ iM_rows.toInt ∧ iM_rows.toInt ≤ 12) (b_iM_goals : 0 ≤ iM_goals.toInt ∧ iM_goals.toInt ≤ 3) (b_iM_differents : 0 ≤ iM_differents.toInt ∧ iM_differents.toInt ≤ 8) (b_iM_cases : 0 ≤ iM_cases.toInt ∧ iM_cases.toInt ≤ 200000) (b_fM_ways : ∀ q : Nat, 0 ≤ (fM_ways q).toInt ∧ (fM_ways q).toInt ≤ 3) (b_iM_plainRows : 0 ≤ iM_plainRows.toInt ∧ iM_plainRows.toInt ≤ 12) (b_fM_plainRow : ∀ q : Nat, 0 ≤ (fM_plainRow q).toInt ∧ (fM_plainRow q).toInt ≤ 11) (b_pr : iM_plainRows.toInt ≤ iM_rows.toInt) (b_p1 : 0 ≤ p1.toInt ∧ p1.toInt ≤ 7) (sz : Nat) : Met l yX11_putVariable wsMX11_putVariable ({ frames := 5, cells := 5626, slots := 420000, locals := 107 }) (va_Pc [.ref (hX 0), .int p1] (fun U => U.heap.size = sz ∧ va_P (dC, dI) vwCl (WX hX aX kX hT hM fX_ready fX_sheet dX_sheet nX_sheet iX_sheetLength xX_reader xX_solver xX_prover xX_values xX_clauses xX_nets ++ (WM hM aM kM iM_stands iM_variables iM_rows iM_goals iM_differents iM_cases fM_from fM_to fM_whole fM_ways iM_plainRows fM_plainRow fM_kept fM_goalOver fM_goalUnder fM_goalMax fM_different)) U.heap ∧ va_K (dC, dI) vwCl (tX kX ++ (tM kM)) U ∧ va_D (fun _ => True) (WX hX aX kX hT hM fX_ready fX_sheet dX_sheet nX_sheet iX_sheetLength xX_reader xX_solver xX_prover xX_values xX_clauses xX_nets ++ (WM hM aM kM iM_stands iM_variables iM_rows iM_goals iM_differents iM_cases fM_from fM_to fM_whole fM_ways iM_plainRows fM_plainRow fM_kept fM_goalOver fM_goalUnder fM_goalMax fM_different)) ∧ CE (va_A (WX hX aX kX hT hM fX_ready fX_sheet dX_sheet nX_sheet iX_sheetLength xX_reader xX_solver xX_prover xX_values xX_clauses xX_nets ++ (WM hM aM kM iM_stands iM_variables iM_rows iM_goals iM_differents iM_cases fM_from fM_to fM_whole fM_ways iM_plainRows fM_plainRow fM_kept fM_goalOver fM_goalUnder fM_goalMax fM_different)) sz) U U.heap)) (va_Qv (fun (u : (Nat → Int32) × (Nat) × (Nat) × (Int32)) => (∀ q : Nat, (-128) ≤ ((u.1) q).toInt ∧ ((u.1) q).toInt ≤ 127) ∧ (64 ≤ (u.2.2.1) ∧ (u.2.2.1) ≤ 60000) ∧ (0 ≤ (u.2.2.2).toInt ∧ (u.2.2.2).toInt ≤ 30000) ∧ ((u.2.2.2).toInt ≤ (((u.2.2.1) : Nat) : Int)) ∧ (nX_sheet ≤ (u.2.2.1)) ∧ (iX_sheetLength.toInt ≤ (u.2.2.2).toInt)) (fun (u : (Nat → Int32) × (Nat) × (Nat) × (Int32)) t => va_P (dC, dI) vwCl (WX hX aX kX hT hM fX_ready (u.1) (u.2.1) (u.2.2.1) (u.2.2.2) xX_reader xX_solver xX_prover xX_values xX_clauses xX_nets ++ (WM hM aM kM iM_stands iM_variables iM_rows iM_goals iM_differents iM_cases fM_from fM_to fM_whole fM_ways iM_plainRows fM_plainRow fM_kept fM_goalOver fM_goalUnder fM_goalMax fM_different)) t.heap ∧ va_D (va_A (WX hX aX kX hT hM fX_ready fX_sheet dX_sheet nX_sheet iX_sheetLength xX_reader xX_solver xX_prover xX_values xX_clauses xX_nets ++ (WM hM aM kM iM_stands iM_variables iM_rows iM_goals iM_differents iM_cases fM_from fM_to fM_whole fM_ways iM_plainRows fM_plainRow fM_kept fM_goalOver fM_goalUnder fM_goalMax fM_different)) sz) (WX hX aX kX hT hM fX_ready (u.1) (u.2.1) (u.2.2.1) (u.2.2.2) xX_reader xX_solver xX_prover xX_values xX_clauses xX_nets ++ (WM hM aM kM iM_stands iM_variables iM_rows iM_goals iM_differents iM_cases fM_from fM_to fM_whole fM_ways iM_plainRows fM_plainRow fM_kept fM_goalOver fM_goalUnder fM_goalMax fM_different)) ∧ t.heap.size + (nX_sheet / 32) ≤ sz + ((u.2.2.1) / 32) ∧ nS sz t.heap + (2 * nX_sheet) ≤ (2 * (u.2.2.1))) (va_A (WX hX aX kX hT hM fX_ready fX_sheet dX_sheet nX_sheet iX_sheetLength xX_reader xX_solver xX_prover xX_values xX_clauses xX_nets ++ (WM hM aM kM iM_stands iM_variables iM_rows iM_goals iM_differents iM_cases fM_from fM_to fM_whole fM_ways iM_plainRows fM_plainRow fM_kept fM_goalOver fM_goalUnder fM_goalMax fM_different)) sz)) 5626 420000 (va_A (WX hX aX kX hT hM fX_ready fX_sheet dX_sheet nX_sheet iX_sheetLength xX_reader xX_solver xX_prover xX_values xX_clauses xX_nets ++ (WM hM aM kM iM_stands iM_variables iM_rows iM_goals iM_differents iM_cases fM_from fM_to fM_whole fM_ways iM_plainRows fM_plainRow fM_kept fM_goalOver fM_goalUnder fM_goalMax fM_different)) sz) := by
  refine Met.ofW (cc := cX11_putVariable) (maxL := 2) (ret := none) (by decide) rfl ?_
  intro p e s m args below meth c s₁ B hml hv
  obtain ⟨rfl, hsz, hP, hK, hD0, hE⟩ := hv
  have hx := B.exec
  have hb := B.bytes
  have hr := B.returns
  have hts := atoms_spec (ws := wsMX11_putVariable) B.pre
  have hown : s.vm.findClass RX11 = some m.cls := findClass_of_methodNamed B.named
  have hlocks := B.notSynchronized
  subst hsz
  have hD := hD0.self (sz := s.heap.size)
  generalize hAe : va_A (WX hX aX kX hT hM fX_ready fX_sheet dX_sheet nX_sheet iX_sheetLength xX_reader xX_solver xX_prover xX_values xX_clauses xX_nets ++ (WM hM aM kM iM_stands iM_variables iM_rows iM_goals iM_differents iM_cases fM_from fM_to fM_whole fM_ways iM_plainRows fM_plainRow fM_kept fM_goalOver fM_goalUnder fM_goalMax fM_different)) s.heap.size = A at hD hE ⊢
  have hA : ∀ q : Nat, s.heap.size ≤ q → A q := fun q h => by rw [← hAe]; exact Or.inr h
  have hS : va_S A s.heap s.heap [] := va_S.rf
  have hl := lv_entry ([.ref (hX 0), .int p1]) (n := 2) (Nat.le_of_ble_eq_true rfl)
  rw [lg_entry_eq]
  generalize (lg_sl ([.ref (hX 0), .int p1]) ++ List.replicate (2 - (lg_sl ([.ref (hX 0), .int p1])).length) Slot.unset).toArray = ls at hl ⊢
  have hl : lv_has ls 2 [(0, .ref (hX 0)), (1, .int p1)] := hl
  refine W.widen (k := (nX_sheet / 32 - (nX_sheet / 32))) (n := (2 * nX_sheet - (2 * nX_sheet))) (Nat.zero_le _) (Nat.zero_le _) ?_
  refine lv_aload_n hx hb dX11_putVariable_0 rfl (lv_at hl 0 rfl) ?_
  obtain ⟨qS277, hR277, hSS277⟩ := hE.2.2.2 0 _ rfl
  refine lv_ldcwS hx hb hown hR277 dX11_putVariable_1 ?_
  refine W.known (fun hz0 hn0 => ?_)
  have hS0 := hS.1
  have p9 := cj_2_0 (WX hX aX kX hT hM fX_ready fX_sheet dX_sheet nX_sheet iX_sheetLength xX_reader xX_solver xX_prover xX_values xX_clauses xX_nets) (WM hM aM kM iM_stands iM_variables iM_rows iM_goals iM_differents iM_cases fM_from fM_to fM_whole fM_ways iM_plainRows fM_plainRow fM_kept fM_goalOver fM_goalUnder fM_goalMax fM_different)
  have hPc := hP.mem (fun q h => p9.mem_iff.mpr (List.mem_append_left _ h))
  have hDc := (hD.perm p9).left
  have hKc : va_K (dC, dI) vwCl (tX kX) _ := hK.sub [0, 1] rfl
  have hFc := freeG p9 hD hS hA
  refine va_callv (va_runV (As := [.ref qS277]) (rest := []) ⟨hx, hb, hml, hown, hts⟩ (Met.sV (m_X11_putText l dC dI hX aX kX hT hM fX_ready fX_sheet dX_sheet nX_sheet iX_sheetLength xX_reader xX_solver xX_prover xX_values xX_clauses xX_nets qS277 5 (fun j => ([118, 97, 114, 32, 120] : List Int32).getD j 0) b_fX_sheet (by first | exact b_nX_sheet | with_reducible assumption | exact ⟨by omega, by omega⟩ | assumption) (b_iX_sheetLength) (by first | with_reducible assumption | omega | (rw [iI_t (by omega) (by omega)]; omega) | (have h7 : (0 : Int32).toInt = 0 := (by decide); omega)) (by decide) s.heap.size) s.heap) (cwV 1 hts gwsMX11_putVariable_0 rfl rfl rfl (by decide +kernel) ⟨by first | decide +kernel | (dsimp only [headSpec] <;> omega), by first | decide +kernel | (dsimp only [headSpec] <;> omega)⟩) ⟨fun a U g mk q => by obtain ⟨q0, qh, q1, qP, qK, qD, qE⟩ := q; exact ⟨q0, qh, q1, qP, va_K.moved (u := U) (U := U.calling g mk a) (Vm.Alike.refl U.vm) qK, qD, qE.same rfl⟩, va_recv hK hP (ci := 11) (q0 := 0) rfl rfl, fun U hU9 hW => ⟨rfl, hU9, by rw [hU9], by rw [hU9]; exact hPc, va_K.moved hW.alike hKc, hDc.weaken (fun _ _ _ _ => trivial), by rw [hU9]; exact (((hSS277 : (StrE qS277 5 (fun j => ([118, 97, 114, 32, 120] : List Int32).getD j 0)) A s s.heap).kept hS.2.1).narrow (fun q h => hFc q h)).warm hW⟩⟩ rfl rfl hl.1 rfl (lv_room (Nat.le_of_ble_eq_true rfl)) dX11_putVariable_4 ⟨by first | decide +kernel | (dsimp only [headSpec] <;> omega), by first | decide +kernel | (dsimp only [headSpec] <;> omega)⟩) hS (fun q _ h => hFc q h) hFc (fun u t9_ H locs ht hvm hw9 hB9 hz1 hk1 hS => ?_)
  revert u hw9 hB9
  refine fz_p4 ?_
  intro fX_sheet_1 dX_sheet_1 nX_sheet_1 iX_sheetLength_1 hw9 hB9
  try dsimp only at hw9 hB9
  revert hw9
  refine fz_a6 ?_
  intro b_fX_sheet_1 b_nX_sheet_1 b_iX_sheetLength_1 b_shl_1 f1_0 f1_1
  have hg1 := hB9.1.2.2.1
  rw [ht] at hg1
  have hg2 := hB9.1.2.2.2
  rw [ht] at hg2
  have hSz := hB9.2
  rw [ht] at hSz
  have p8 := cj_2_0 (WX hX aX kX hT hM fX_ready fX_sheet_1 dX_sheet_1 nX_sheet_1 iX_sheetLength_1 xX_reader xX_solver xX_prover xX_values xX_clauses xX_nets) (WM hM aM kM iM_stands iM_variables iM_rows iM_goals iM_differents iM_cases fM_from fM_to fM_whole fM_ways iM_plainRows fM_plainRow fM_kept fM_goalOver fM_goalUnder fM_goalMax fM_different)
  obtain ⟨hP, hD⟩ := frameG p9 p8 hP hD hk1 hFc (fz_P ht hB9.1.1) hB9.1.2.1
  have hz9 : H.size ≤ s.heap.size + (nX_sheet_1 / 32 - (nX_sheet / 32)) := by (try dsimp only at hg1); omega
  have hn9 : nS s.heap.size H ≤ (2 * nX_sheet_1 - (2 * nX_sheet)) := by rw [hSz.n hS0]; (try dsimp only at hg2); omega
  refine W.tight (cells2 := (nX_sheet_1 / 32 - (nX_sheet / 32))) (slots2 := (2 * nX_sheet_1 - (2 * nX_sheet))) hz9 hn9 ?_
  clear hz9 hn9 hz0 hn0 hS0 hSz hg1 hg2
  refine lv_aload_n hx hb dX11_putVariable_7 rfl (lv_at hl 0 rfl) ?_
  refine lv_iload_n hx hb dX11_putVariable_8 rfl (lv_at hl 1 rfl) ?_
  refine W.known (fun hz0 hn0 => ?_)
  have hS0 := hS.1
  have p9 := cj_2_0 (WX hX aX kX hT hM fX_ready fX_sheet_1 dX_sheet_1 nX_sheet_1 iX_sheetLength_1 xX_reader xX_solver xX_prover xX_values xX_clauses xX_nets) (WM hM aM kM iM_stands iM_variables iM_rows iM_goals iM_differents iM_cases fM_from fM_to fM_whole fM_ways iM_plainRows fM_plainRow fM_kept fM_goalOver fM_goalUnder fM_goalMax fM_different)
  have hPc := hP.mem (fun q h => p9.mem_iff.mpr (List.mem_append_left _ h))
  have hDc := (hD.perm p9).left
  have hKc : va_K (dC, dI) vwCl (tX kX) _ := hK.sub [0, 1] rfl
  have hFc := freeG p9 hD hS hA
  refine va_callv (va_runV (As := [.int p1]) (rest := []) ⟨hx, hb, hml, hown, hts⟩ (Met.sV (m_X11_putNumber l dC dI hX aX kX hT hM fX_ready fX_sheet_1 dX_sheet_1 nX_sheet_1 iX_sheetLength_1 xX_reader xX_solver xX_prover xX_values xX_clauses xX_nets p1 b_fX_sheet_1 (by first | exact b_nX_sheet_1 | with_reducible assumption | exact ⟨by omega, by omega⟩ | assumption) (b_iX_sheetLength_1) (by first | with_reducible assumption | omega | (rw [iI_t (by omega) (by omega)]; omega) | (have h7 : (0 : Int32).toInt = 0 := (by decide); omega)) H.size) H) (cwV 1 hts gwsMX11_putVariable_1 rfl rfl rfl (by decide +kernel) ⟨by first | decide +kernel | (dsimp only [headSpec] <;> omega), by first | decide +kernel | (dsimp only [headSpec] <;> omega)⟩) ⟨fun a U g mk q => by obtain ⟨q0, qh, q1, qP, qK, qD⟩ := q; exact ⟨q0, qh, q1, qP, va_K.moved (u := U) (U := U.calling g mk a) (Vm.Alike.refl U.vm) qK, qD⟩, va_recv hK hP (ci := 11) (q0 := 0) rfl rfl, fun U hU9 hW => ⟨rfl, hU9, by rw [hU9], by rw [hU9]; exact hPc, va_K.moved hW.alike hKc, hDc.weaken (fun _ _ _ _ => trivial)⟩⟩ rfl rfl hl.1 rfl (lv_room (Nat.le_of_ble_eq_true rfl)) dX11_putVariable_9 ⟨by first | decide +kernel | (dsimp only [headSpec] <;> omega), by first | decide +kernel | (dsimp only [headSpec] <;> omega)⟩) hS (fun q _ h => hFc q h) hFc (fun u t9_ H locs ht hvm hw9 hB9 hz1 hk1 hS => ?_)
  revert u hw9 hB9
  refine fz_p4 ?_
  intro fX_sheet_2 dX_sheet_2 nX_sheet_2 iX_sheetLength_2 hw9 hB9
  try dsimp only at hw9 hB9
  revert hw9
  refine fz_a6 ?_
  intro b_fX_sheet_2 b_nX_sheet_2 b_iX_sheetLength_2 b_shl_2 f2_0 f2_1
  have hg1 := hB9.1.2.2.1
  rw [ht] at hg1
  have hg2 := hB9.1.2.2.2
  rw [ht] at hg2
  have hSz := hB9.2
  rw [ht] at hSz
  have p8 := cj_2_0 (WX hX aX kX hT hM fX_ready fX_sheet_2 dX_sheet_2 nX_sheet_2 iX_sheetLength_2 xX_reader xX_solver xX_prover xX_values xX_clauses xX_nets) (WM hM aM kM iM_stands iM_variables iM_rows iM_goals iM_differents iM_cases fM_from fM_to fM_whole fM_ways iM_plainRows fM_plainRow fM_kept fM_goalOver fM_goalUnder fM_goalMax fM_different)
  obtain ⟨hP, hD⟩ := frameG p9 p8 hP hD hk1 hFc (fz_P ht hB9.1.1) hB9.1.2.1
  have hz9 : H.size ≤ s.heap.size + (nX_sheet_2 / 32 - (nX_sheet / 32)) := by (try dsimp only at hg1); omega
  have hn9 : nS s.heap.size H ≤ (2 * nX_sheet_2 - (2 * nX_sheet)) := by rw [hSz.n hS0]; (try dsimp only at hg2); omega
  refine W.tight (cells2 := (nX_sheet_2 / 32 - (nX_sheet / 32))) (slots2 := (2 * nX_sheet_2 - (2 * nX_sheet))) hz9 hn9 ?_
  clear hz9 hn9 hz0 hn0 hS0 hSz hg1 hg2
  refine lv_aload_n hx hb dX11_putVariable_12 rfl (lv_at hl 0 rfl) ?_
  refine va_get (D := (dC, dI)) (ci := 11) (v := .ref (hM 0)) (C := RX11) (T := TX11) (N := 11) hx hb hts iwsMX11_putVariable_in11 hown hK hP 0 rfl rfl 2 (by decide) (hts _ hm_m_X11_putVariable_0) (fun _ h9 => h9) rfl dX11_putVariable_13 ?_
  refine va_get (D := (dC, dI)) (ci := 1) (v := .ref (aM 2)) (C := RX1) (T := TX1) (N := 17) hx hb hts iwsMX11_putVariable_in1 hown hK hP 3 rfl rfl 8 (by decide) (hts (.fieldLink RX11 102 "OptimaWorks$Model" "whole" "[Z") (by decide +kernel)) (fun _ h9 => h9) rfl dX11_putVariable_16 ?_
  refine lv_iload_n hx hb dX11_putVariable_19 rfl (lv_at hl 1 rfl) ?_
  refine va_zald (cA := kM 2) (n := 8) (f := fM_whole) hx hb hK hP 6 4 rfl rfl (vp_in_iff.mpr ⟨b_p1.1, (Int.lt_of_le_of_lt (b_p1.2) (by decide))⟩) dX11_putVariable_20 ?_
  refine lv_topi (fun v3 hv3 => ?_)
  clear hv3
  refine W.known (fun hzk hnk => ?_)
  refine W.widen (k := 1875) (n := 120000) (by omega) (by omega) ?_
  refine W.cut (pc := 31) (fun H locs ls stk => ∃ (fX_sheet_j2 : Nat → Int32) (dX_sheet_j2 : Nat) (nX_sheet_j2 : Nat) (iX_sheetLength_j2 : Int32), (∀ q : Nat, (-128) ≤ (fX_sheet_j2 q).toInt ∧ (fX_sheet_j2 q).toInt ≤ 127) ∧ (64 ≤ nX_sheet_j2 ∧ nX_sheet_j2 ≤ 60000) ∧ (0 ≤ iX_sheetLength_j2.toInt ∧ iX_sheetLength_j2.toInt ≤ 30000) ∧ (iX_sheetLength_j2.toInt ≤ ((nX_sheet_j2 : Nat) : Int)) ∧ (iX_sheetLength.toInt ≤ iX_sheetLength_j2.toInt) ∧ (nX_sheet ≤ nX_sheet_j2) ∧ (H.size + (nX_sheet / 32) ≤ s.heap.size + (nX_sheet_j2 / 32) ∧ nS s.heap.size H + (2 * nX_sheet) ≤ (2 * nX_sheet_j2)) ∧  stk = [] ∧ va_P (dC, dI) vwCl (WX hX aX kX hT hM fX_ready fX_sheet_j2 dX_sheet_j2 nX_sheet_j2 iX_sheetLength_j2 xX_reader xX_solver xX_prover xX_values xX_clauses xX_nets ++ (WM hM aM kM iM_stands iM_variables iM_rows iM_goals iM_differents iM_cases fM_from fM_to fM_whole fM_ways iM_plainRows fM_plainRow fM_kept fM_goalOver fM_goalUnder fM_goalMax fM_different)) H ∧ va_D A (WX hX aX kX hT hM fX_ready fX_sheet_j2 dX_sheet_j2 nX_sheet_j2 iX_sheetLength_j2 xX_reader xX_solver xX_prover xX_values xX_clauses xX_nets ++ (WM hM aM kM iM_stands iM_variables iM_rows iM_goals iM_differents iM_cases fM_from fM_to fM_whole fM_ways iM_plainRows fM_plainRow fM_kept fM_goalOver fM_goalUnder fM_goalMax fM_different)) ∧ va_S A s.heap H locs ∧ lv_has ls 2 [(0, .ref (hX 0)), (1, .int p1)]) (fun join2 => ?_) ?_
  · refine W.tight (cells2 := (nX_sheet_2 / 32 - (nX_sheet / 32))) (slots2 := (2 * nX_sheet_2 - (2 * nX_sheet))) hzk hnk ?_
    refine lv_if_eq (tgt := 31) hx hb dX11_putVariable_21 (by decide) (fun c_21 => ?_) (fun c_21 => ?_)
    · have t_21 : v3.toInt = 0 := toI_eq c_21 rfl (by decide : (0 : Int32).toInt = 0)
      have hl : lv_has _ _ ([(0, .ref (hX 0)), (1, .int p1)]) := lv_sub hl [0, 1] rfl
      refine W.known (fun hza hna => ?_)
      refine W.widen (k := 1875) (n := 120000) (by omega) (by omega) ?_
      exact join2 _ _ _ _ ⟨fX_sheet_2, dX_sheet_2, nX_sheet_2, iX_sheetLength_2, b_fX_sheet_2, (by first | exact b_nX_sheet_2 | with_reducible assumption | exact ⟨by omega, by omega⟩ | assumption), (b_iX_sheetLength_2), (by first | with_reducible assumption | omega | (rw [iI_t (by omega) (by omega)]; omega) | (have h7 : (0 : Int32).toInt = 0 := (by decide); omega)), (show iX_sheetLength.toInt ≤ iX_sheetLength_2.toInt from by omega), (show nX_sheet ≤ nX_sheet_2 from by omega), ⟨by omega, by omega⟩, rfl, hP, hD, hS, hl⟩
    · have t_21 : ¬ v3.toInt = 0 := toI_neq c_21 rfl (by decide : (0 : Int32).toInt = 0)
      refine lv_aload_n hx hb dX11_putVariable_24 rfl (lv_at hl 0 rfl) ?_
      obtain ⟨qS286, hR286, hSS286⟩ := hE.2.2.2 1 _ rfl
      refine lv_ldcwS hx hb hown hR286 dX11_putVariable_25 ?_
      refine W.known (fun hz0 hn0 => ?_)
      have hS0 := hS.1
      have p9 := cj_2_0 (WX hX aX kX hT hM fX_ready fX_sheet_2 dX_sheet_2 nX_sheet_2 iX_sheetLength_2 xX_reader xX_solver xX_prover xX_values xX_clauses xX_nets) (WM hM aM kM iM_stands iM_variables iM_rows iM_goals iM_differents iM_cases fM_from fM_to fM_whole fM_ways iM_plainRows fM_plainRow fM_kept fM_goalOver fM_goalUnder fM_goalMax fM_different)
      have hPc := hP.mem (fun q h => p9.mem_iff.mpr (List.mem_append_left _ h))
      have hDc := (hD.perm p9).left
      have hKc : va_K (dC, dI) vwCl (tX kX) _ := hK.sub [0, 1] rfl
      have hFc := freeG p9 hD hS hA
      refine va_callv (va_runV (As := [.ref qS286]) (rest := []) ⟨hx, hb, hml, hown, hts⟩ (Met.sV (m_X11_putText l dC dI hX aX kX hT hM fX_ready fX_sheet_2 dX_sheet_2 nX_sheet_2 iX_sheetLength_2 xX_reader xX_solver xX_prover xX_values xX_clauses xX_nets qS286 6 (fun j => ([32, 119, 104, 111, 108, 101] : List Int32).getD j 0) b_fX_sheet_2 (by first | exact b_nX_sheet_2 | with_reducible assumption | exact ⟨by omega, by omega⟩ | assumption) (b_iX_sheetLength_2) (by first | with_reducible assumption | omega | (rw [iI_t (by omega) (by omega)]; omega) | (have h7 : (0 : Int32).toInt = 0 := (by decide); omega)) (by decide) H.size) H) (cwV 1 hts gwsMX11_putVariable_0 rfl rfl rfl (by decide +kernel) ⟨by first | decide +kernel | (dsimp only [headSpec] <;> omega), by first | decide +kernel | (dsimp only [headSpec] <;> omega)⟩) ⟨fun a U g mk q => by obtain ⟨q0, qh, q1, qP, qK, qD, qE⟩ := q; exact ⟨q0, qh, q1, qP, va_K.moved (u := U) (U := U.calling g mk a) (Vm.Alike.refl U.vm) qK, qD, qE.same rfl⟩, va_recv hK hP (ci := 11) (q0 := 0) rfl rfl, fun U hU9 hW => ⟨rfl, hU9, by rw [hU9], by rw [hU9]; exact hPc, va_K.moved hW.alike hKc, hDc.weaken (fun _ _ _ _ => trivial), by rw [hU9]; exact (((hSS286 : (StrE qS286 6 (fun j => ([32, 119, 104, 111, 108, 101] : List Int32).getD j 0)) A s s.heap).kept hS.2.1).narrow (fun q h => hFc q h)).warm hW⟩⟩ rfl rfl hl.1 rfl (lv_room (Nat.le_of_ble_eq_true rfl)) dX11_putVariable_28 ⟨by first | decide +kernel | (dsimp only [headSpec] <;> omega), by first | decide +kernel | (dsimp only [headSpec] <;> omega)⟩) hS (fun q _ h => hFc q h) hFc (fun u t9_ H locs ht hvm hw9 hB9 hz1 hk1 hS => ?_)
      revert u hw9 hB9
      refine fz_p4 ?_
      intro fX_sheet_5 dX_sheet_5 nX_sheet_5 iX_sheetLength_5 hw9 hB9
      try dsimp only at hw9 hB9
      revert hw9
      refine fz_a6 ?_
      intro b_fX_sheet_5 b_nX_sheet_5 b_iX_sheetLength_5 b_shl_5 f5_0 f5_1
      have hg1 := hB9.1.2.2.1
      rw [ht] at hg1
      have hg2 := hB9.1.2.2.2
      rw [ht] at hg2
      have hSz := hB9.2
      rw [ht] at hSz
      have p8 := cj_2_0 (WX hX aX kX hT hM fX_ready fX_sheet_5 dX_sheet_5 nX_sheet_5 iX_sheetLength_5 xX_reader xX_solver xX_prover xX_values xX_clauses xX_nets) (WM hM aM kM iM_stands iM_variables iM_rows iM_goals iM_differents iM_cases fM_from fM_to fM_whole fM_ways iM_plainRows fM_plainRow fM_kept fM_goalOver fM_goalUnder fM_goalMax fM_different)
      obtain ⟨hP, hD⟩ := frameG p9 p8 hP hD hk1 hFc (fz_P ht hB9.1.1) hB9.1.2.1
      have hz9 : H.size ≤ s.heap.size + (nX_sheet_5 / 32 - (nX_sheet / 32)) := by (try dsimp only at hg1); omega
      have hn9 : nS s.heap.size H ≤ (2 * nX_sheet_5 - (2 * nX_sheet)) := by rw [hSz.n hS0]; (try dsimp only at hg2); omega
      refine W.tight (cells2 := (nX_sheet_5 / 32 - (nX_sheet / 32))) (slots2 := (2 * nX_sheet_5 - (2 * nX_sheet))) hz9 hn9 ?_
      clear hz9 hn9 hz0 hn0 hS0 hSz hg1 hg2
      have hl : lv_has _ _ ([(0, .ref (hX 0)), (1, .int p1)]) := lv_sub hl [0, 1] rfl
      refine W.known (fun hza hna => ?_)
      refine W.widen (k := 1875) (n := 120000) (by omega) (by omega) ?_
      exact join2 _ _ _ _ ⟨fX_sheet_5, dX_sheet_5, nX_sheet_5, iX_sheetLength_5, b_fX_sheet_5, (by first | exact b_nX_sheet_5 | with_reducible assumption | exact ⟨by omega, by omega⟩ | assumption), (b_iX_sheetLength_5), (by first | with_reducible assumption | omega | (rw [iI_t (by omega) (by omega)]; omega) | (have h7 : (0 : Int32).toInt = 0 := (by decide); omega)), (show iX_sheetLength.toInt ≤ iX_sheetLength_5.toInt from by omega), (show nX_sheet ≤ nX_sheet_5 from by omega), ⟨by omega, by omega⟩, rfl, hP, hD, hS, hl⟩
  · intro H locs ls stk
    refine fz_e4 ?_
    intro fX_sheet_j2 dX_sheet_j2 nX_sheet_j2 iX_sheetLength_j2
    refine fz_a12 ?_
    intro b_fX_sheet_j2 b_nX_sheet_j2 b_iX_sheetLength_j2 b_shl_j2 hjx hgm0_j2 hzn9_6 hst9_7 hP hD hS hl
    have hzj := hzn9_6.1
    have hnj := hzn9_6.2
    clear hzn9_6
    subst hst9_7
    refine W.tight (cells2 := (nX_sheet_j2 / 32 - (nX_sheet / 32))) (slots2 := (2 * nX_sheet_j2 - (2 * nX_sheet))) (tg1 hzj hS.1) (tg2 hnj) ?_
    refine lv_aload_n hx hb dX11_putVariable_31 rfl (lv_at hl 0 rfl) ?_
    obtain ⟨qS288, hR288, hSS288⟩ := hE.2.2.2 2 _ rfl
    refine lv_ldcwS hx hb hown hR288 dX11_putVariable_32 ?_
    refine W.known (fun hz0 hn0 => ?_)
    have hS0 := hS.1
    have p9 := cj_2_0 (WX hX aX kX hT hM fX_ready fX_sheet_j2 dX_sheet_j2 nX_sheet_j2 iX_sheetLength_j2 xX_reader xX_solver xX_prover xX_values xX_clauses xX_nets) (WM hM aM kM iM_stands iM_variables iM_rows iM_goals iM_differents iM_cases fM_from fM_to fM_whole fM_ways iM_plainRows fM_plainRow fM_kept fM_goalOver fM_goalUnder fM_goalMax fM_different)
    have hPc := hP.mem (fun q h => p9.mem_iff.mpr (List.mem_append_left _ h))
    have hDc := (hD.perm p9).left
    have hKc : va_K (dC, dI) vwCl (tX kX) _ := hK.sub [0, 1] rfl
    have hFc := freeG p9 hD hS hA
    refine va_callv (va_runV (As := [.ref qS288]) (rest := []) ⟨hx, hb, hml, hown, hts⟩ (Met.sV (m_X11_putText l dC dI hX aX kX hT hM fX_ready fX_sheet_j2 dX_sheet_j2 nX_sheet_j2 iX_sheetLength_j2 xX_reader xX_solver xX_prover xX_values xX_clauses xX_nets qS288 6 (fun j => ([32, 102, 114, 111, 109, 32] : List Int32).getD j 0) b_fX_sheet_j2 (by first | exact b_nX_sheet_j2 | with_reducible assumption | exact ⟨by omega, by omega⟩ | assumption) (b_iX_sheetLength_j2) (by first | with_reducible assumption | omega | (rw [iI_t (by omega) (by omega)]; omega) | (have h7 : (0 : Int32).toInt = 0 := (by decide); omega)) (by decide) H.size) H) (cwV 1 hts gwsMX11_putVariable_0 rfl rfl rfl (by decide +kernel) ⟨by first | decide +kernel | (dsimp only [headSpec] <;> omega), by first | decide +kernel | (dsimp only [headSpec] <;> omega)⟩) ⟨fun a U g mk q => by obtain ⟨q0, qh, q1, qP, qK, qD, qE⟩ := q; exact ⟨q0, qh, q1, qP, va_K.moved (u := U) (U := U.calling g mk a) (Vm.Alike.refl U.vm) qK, qD, qE.same rfl⟩, va_recv hK hP (ci := 11) (q0 := 0) rfl rfl, fun U hU9 hW => ⟨rfl, hU9, by rw [hU9], by rw [hU9]; exact hPc, va_K.moved hW.alike hKc, hDc.weaken (fun _ _ _ _ => trivial), by rw [hU9]; exact (((hSS288 : (StrE qS288 6 (fun j => ([32, 102, 114, 111, 109, 32] : List Int32).getD j 0)) A s s.heap).kept hS.2.1).narrow (fun q h => hFc q h)).warm hW⟩⟩ rfl rfl hl.1 rfl (lv_room (Nat.le_of_ble_eq_true rfl)) dX11_putVariable_35 ⟨by first | decide +kernel | (dsimp only [headSpec] <;> omega), by first | decide +kernel | (dsimp only [headSpec] <;> omega)⟩) hS (fun q _ h => hFc q h) hFc (fun u t9_ H locs ht hvm hw9 hB9 hz1 hk1 hS => ?_)
    revert u hw9 hB9
    refine fz_p4 ?_
    intro fX_sheet_6 dX_sheet_6 nX_sheet_6 iX_sheetLength_6 hw9 hB9
    try dsimp only at hw9 hB9
    revert hw9
    refine fz_a6 ?_
    intro b_fX_sheet_6 b_nX_sheet_6 b_iX_sheetLength_6 b_shl_6 f6_0 f6_1
    have hg1 := hB9.1.2.2.1
    rw [ht] at hg1
    have hg2 := hB9.1.2.2.2
    rw [ht] at hg2
    have hSz := hB9.2
    rw [ht] at hSz
    have p8 := cj_2_0 (WX hX aX kX hT hM fX_ready fX_sheet_6 dX_sheet_6 nX_sheet_6 iX_sheetLength_6 xX_reader xX_solver xX_prover xX_values xX_clauses xX_nets) (WM hM aM kM iM_stands iM_variables iM_rows iM_goals iM_differents iM_cases fM_from fM_to fM_whole fM_ways iM_plainRows fM_plainRow fM_kept fM_goalOver fM_goalUnder fM_goalMax fM_different)
    obtain ⟨hP, hD⟩ := frameG p9 p8 hP hD hk1 hFc (fz_P ht hB9.1.1) hB9.1.2.1
    have hz9 : H.size ≤ s.heap.size + (nX_sheet_6 / 32 - (nX_sheet / 32)) := by (try dsimp only at hg1); omega
    have hn9 : nS s.heap.size H ≤ (2 * nX_sheet_6 - (2 * nX_sheet)) := by rw [hSz.n hS0]; (try dsimp only at hg2); omega
    refine W.tight (cells2 := (nX_sheet_6 / 32 - (nX_sheet / 32))) (slots2 := (2 * nX_sheet_6 - (2 * nX_sheet))) hz9 hn9 ?_
    clear hz9 hn9 hz0 hn0 hS0 hSz hg1 hg2
    refine lv_aload_n hx hb dX11_putVariable_38 rfl (lv_at hl 0 rfl) ?_
    refine lv_aload_n hx hb dX11_putVariable_39 rfl (lv_at hl 0 rfl) ?_
    refine va_get (D := (dC, dI)) (ci := 11) (v := .ref (hM 0)) (C := RX11) (T := TX11) (N := 11) hx hb hts iwsMX11_putVariable_in11 hown hK hP 0 rfl rfl 2 (by decide) (hts _ hm_m_X11_putVariable_0) (fun _ h9 => h9) rfl dX11_putVariable_40 ?_
    refine va_get (D := (dC, dI)) (ci := 1) (v := .ref (aM 0)) (C := RX1) (T := TX1) (N := 17) hx hb hts iwsMX11_putVariable_in1 hown hK hP 3 rfl rfl 6 (by decide) (hts (.fieldLink RX11 96 "OptimaWorks$Model" "from" "[I") (by decide +kernel)) (fun _ h9 => h9) rfl dX11_putVariable_43 ?_
    refine lv_iload_n hx hb dX11_putVariable_46 rfl (lv_at hl 1 rfl) ?_
    refine va_iald (cA := kM 0) (n := 8) (f := fM_from) hx hb hK hP 4 2 rfl rfl (vp_in_iff.mpr ⟨b_p1.1, (Int.lt_of_le_of_lt (b_p1.2) (by decide))⟩) dX11_putVariable_47 ?_
    refine lv_topi (fun v7 hv7 => ?_)
    clear hv7
    refine W.known (fun hz0 hn0 => ?_)
    have hS0 := hS.1
    have p9 := cj_2_0 (WX hX aX kX hT hM fX_ready fX_sheet_6 dX_sheet_6 nX_sheet_6 iX_sheetLength_6 xX_reader xX_solver xX_prover xX_values xX_clauses xX_nets) (WM hM aM kM iM_stands iM_variables iM_rows iM_goals iM_differents iM_cases fM_from fM_to fM_whole fM_ways iM_plainRows fM_plainRow fM_kept fM_goalOver fM_goalUnder fM_goalMax fM_different)
    have hPc := hP.mem (fun q h => p9.mem_iff.mpr (List.mem_append_left _ h))
    have hDc := (hD.perm p9).left
    have hKc : va_K (dC, dI) vwCl (tX kX) _ := hK.sub [0, 1] rfl
    have hFc := freeG p9 hD hS hA
    refine va_callv (va_runV (As := [.int v7]) (rest := []) ⟨hx, hb, hml, hown, hts⟩ (Met.sV (m_X11_putNumber l dC dI hX aX kX hT hM fX_ready fX_sheet_6 dX_sheet_6 nX_sheet_6 iX_sheetLength_6 xX_reader xX_solver xX_prover xX_values xX_clauses xX_nets v7 b_fX_sheet_6 (by first | exact b_nX_sheet_6 | with_reducible assumption | exact ⟨by omega, by omega⟩ | assumption) (b_iX_sheetLength_6) (by first | with_reducible assumption | omega | (rw [iI_t (by omega) (by omega)]; omega) | (have h7 : (0 : Int32).toInt = 0 := (by decide); omega)) H.size) H) (cwV 1 hts gwsMX11_putVariable_1 rfl rfl rfl (by decide +kernel) ⟨by first | decide +kernel | (dsimp only [headSpec] <;> omega), by first | decide +kernel | (dsimp only [headSpec] <;> omega)⟩) ⟨fun a U g mk q => by obtain ⟨q0, qh, q1, qP, qK, qD⟩ := q; exact ⟨q0, qh, q1, qP, va_K.moved (u := U) (U := U.calling g mk a) (Vm.Alike.refl U.vm) qK, qD⟩, va_recv hK hP (ci := 11) (q0 := 0) rfl rfl, fun U hU9 hW => ⟨rfl, hU9, by rw [hU9], by rw [hU9]; exact hPc, va_K.moved hW.alike hKc, hDc.weaken (fun _ _ _ _ => trivial)⟩⟩ rfl rfl hl.1 rfl (lv_room (Nat.le_of_ble_eq_true rfl)) dX11_putVariable_48 ⟨by first | decide +kernel | (dsimp only [headSpec] <;> omega), by first | decide +kernel | (dsimp only [headSpec] <;> omega)⟩) hS (fun q _ h => hFc q h) hFc (fun u t9_ H locs ht hvm hw9 hB9 hz1 hk1 hS => ?_)
    revert u hw9 hB9
    refine fz_p4 ?_
    intro fX_sheet_8 dX_sheet_8 nX_sheet_8 iX_sheetLength_8 hw9 hB9
    try dsimp only at hw9 hB9
    revert hw9
    refine fz_a6 ?_
    intro b_fX_sheet_8 b_nX_sheet_8 b_iX_sheetLength_8 b_shl_8 f8_0 f8_1
    have hg1 := hB9.1.2.2.1
    rw [ht] at hg1
    have hg2 := hB9.1.2.2.2
    rw [ht] at hg2
    have hSz := hB9.2
    rw [ht] at hSz
    have p8 := cj_2_0 (WX hX aX kX hT hM fX_ready fX_sheet_8 dX_sheet_8 nX_sheet_8 iX_sheetLength_8 xX_reader xX_solver xX_prover xX_values xX_clauses xX_nets) (WM hM aM kM iM_stands iM_variables iM_rows iM_goals iM_differents iM_cases fM_from fM_to fM_whole fM_ways iM_plainRows fM_plainRow fM_kept fM_goalOver fM_goalUnder fM_goalMax fM_different)
    obtain ⟨hP, hD⟩ := frameG p9 p8 hP hD hk1 hFc (fz_P ht hB9.1.1) hB9.1.2.1
    have hz9 : H.size ≤ s.heap.size + (nX_sheet_8 / 32 - (nX_sheet / 32)) := by (try dsimp only at hg1); omega
    have hn9 : nS s.heap.size H ≤ (2 * nX_sheet_8 - (2 * nX_sheet)) := by rw [hSz.n hS0]; (try dsimp only at hg2); omega
    refine W.tight (cells2 := (nX_sheet_8 / 32 - (nX_sheet / 32))) (slots2 := (2 * nX_sheet_8 - (2 * nX_sheet))) hz9 hn9 ?_
    clear hz9 hn9 hz0 hn0 hS0 hSz hg1 hg2
    refine lv_aload_n hx hb dX11_putVariable_51 rfl (lv_at hl 0 rfl) ?_
    obtain ⟨qS290, hR290, hSS290⟩ := hE.2.2.2 3 _ rfl
    refine lv_ldcwS hx hb hown hR290 dX11_putVariable_52 ?_
    refine W.known (fun hz0 hn0 => ?_)
    have hS0 := hS.1
    have p9 := cj_2_0 (WX hX aX kX hT hM fX_ready fX_sheet_8 dX_sheet_8 nX_sheet_8 iX_sheetLength_8 xX_reader xX_solver xX_prover xX_values xX_clauses xX_nets) (WM hM aM kM iM_stands iM_variables iM_rows iM_goals iM_differents iM_cases fM_from fM_to fM_whole fM_ways iM_plainRows fM_plainRow fM_kept fM_goalOver fM_goalUnder fM_goalMax fM_different)
    have hPc := hP.mem (fun q h => p9.mem_iff.mpr (List.mem_append_left _ h))
    have hDc := (hD.perm p9).left
    have hKc : va_K (dC, dI) vwCl (tX kX) _ := hK.sub [0, 1] rfl
    have hFc := freeG p9 hD hS hA
    refine va_callv (va_runV (As := [.ref qS290]) (rest := []) ⟨hx, hb, hml, hown, hts⟩ (Met.sV (m_X11_putText l dC dI hX aX kX hT hM fX_ready fX_sheet_8 dX_sheet_8 nX_sheet_8 iX_sheetLength_8 xX_reader xX_solver xX_prover xX_values xX_clauses xX_nets qS290 4 (fun j => ([32, 116, 111, 32] : List Int32).getD j 0) b_fX_sheet_8 (by first | exact b_nX_sheet_8 | with_reducible assumption | exact ⟨by omega, by omega⟩ | assumption) (b_iX_sheetLength_8) (by first | with_reducible assumption | omega | (rw [iI_t (by omega) (by omega)]; omega) | (have h7 : (0 : Int32).toInt = 0 := (by decide); omega)) (by decide) H.size) H) (cwV 1 hts gwsMX11_putVariable_0 rfl rfl rfl (by decide +kernel) ⟨by first | decide +kernel | (dsimp only [headSpec] <;> omega), by first | decide +kernel | (dsimp only [headSpec] <;> omega)⟩) ⟨fun a U g mk q => by obtain ⟨q0, qh, q1, qP, qK, qD, qE⟩ := q; exact ⟨q0, qh, q1, qP, va_K.moved (u := U) (U := U.calling g mk a) (Vm.Alike.refl U.vm) qK, qD, qE.same rfl⟩, va_recv hK hP (ci := 11) (q0 := 0) rfl rfl, fun U hU9 hW => ⟨rfl, hU9, by rw [hU9], by rw [hU9]; exact hPc, va_K.moved hW.alike hKc, hDc.weaken (fun _ _ _ _ => trivial), by rw [hU9]; exact (((hSS290 : (StrE qS290 4 (fun j => ([32, 116, 111, 32] : List Int32).getD j 0)) A s s.heap).kept hS.2.1).narrow (fun q h => hFc q h)).warm hW⟩⟩ rfl rfl hl.1 rfl (lv_room (Nat.le_of_ble_eq_true rfl)) dX11_putVariable_55 ⟨by first | decide +kernel | (dsimp only [headSpec] <;> omega), by first | decide +kernel | (dsimp only [headSpec] <;> omega)⟩) hS (fun q _ h => hFc q h) hFc (fun u t9_ H locs ht hvm hw9 hB9 hz1 hk1 hS => ?_)
    revert u hw9 hB9
    refine fz_p4 ?_
    intro fX_sheet_9 dX_sheet_9 nX_sheet_9 iX_sheetLength_9 hw9 hB9
    try dsimp only at hw9 hB9
    revert hw9
    refine fz_a6 ?_
    intro b_fX_sheet_9 b_nX_sheet_9 b_iX_sheetLength_9 b_shl_9 f9_0 f9_1
    have hg1 := hB9.1.2.2.1
    rw [ht] at hg1
    have hg2 := hB9.1.2.2.2
    rw [ht] at hg2
    have hSz := hB9.2
    rw [ht] at hSz
    have p8 := cj_2_0 (WX hX aX kX hT hM fX_ready fX_sheet_9 dX_sheet_9 nX_sheet_9 iX_sheetLength_9 xX_reader xX_solver xX_prover xX_values xX_clauses xX_nets) (WM hM aM kM iM_stands iM_variables iM_rows iM_goals iM_differents iM_cases fM_from fM_to fM_whole fM_ways iM_plainRows fM_plainRow fM_kept fM_goalOver fM_goalUnder fM_goalMax fM_different)
    obtain ⟨hP, hD⟩ := frameG p9 p8 hP hD hk1 hFc (fz_P ht hB9.1.1) hB9.1.2.1
    have hz9 : H.size ≤ s.heap.size + (nX_sheet_9 / 32 - (nX_sheet / 32)) := by (try dsimp only at hg1); omega
    have hn9 : nS s.heap.size H ≤ (2 * nX_sheet_9 - (2 * nX_sheet)) := by rw [hSz.n hS0]; (try dsimp only at hg2); omega
    refine W.tight (cells2 := (nX_sheet_9 / 32 - (nX_sheet / 32))) (slots2 := (2 * nX_sheet_9 - (2 * nX_sheet))) hz9 hn9 ?_
    clear hz9 hn9 hz0 hn0 hS0 hSz hg1 hg2
    refine lv_aload_n hx hb dX11_putVariable_58 rfl (lv_at hl 0 rfl) ?_
    refine lv_aload_n hx hb dX11_putVariable_59 rfl (lv_at hl 0 rfl) ?_
    refine va_get (D := (dC, dI)) (ci := 11) (v := .ref (hM 0)) (C := RX11) (T := TX11) (N := 11) hx hb hts iwsMX11_putVariable_in11 hown hK hP 0 rfl rfl 2 (by decide) (hts _ hm_m_X11_putVariable_0) (fun _ h9 => h9) rfl dX11_putVariable_60 ?_
    refine va_get (D := (dC, dI)) (ci := 1) (v := .ref (aM 1)) (C := RX1) (T := TX1) (N := 17) hx hb hts iwsMX11_putVariable_in1 hown hK hP 3 rfl rfl 7 (by decide) (hts (.fieldLink RX11 99 "OptimaWorks$Model" "to" "[I") (by decide +kernel)) (fun _ h9 => h9) rfl dX11_putVariable_63 ?_
    refine lv_iload_n hx hb dX11_putVariable_66 rfl (lv_at hl 1 rfl) ?_
    refine va_iald (cA := kM 1) (n := 8) (f := fM_to) hx hb hK hP 5 3 rfl rfl (vp_in_iff.mpr ⟨b_p1.1, (Int.lt_of_le_of_lt (b_p1.2) (by decide))⟩) dX11_putVariable_67 ?_
    refine lv_topi (fun v10 hv10 => ?_)
    clear hv10
    refine W.known (fun hz0 hn0 => ?_)
    have hS0 := hS.1
    have p9 := cj_2_0 (WX hX aX kX hT hM fX_ready fX_sheet_9 dX_sheet_9 nX_sheet_9 iX_sheetLength_9 xX_reader xX_solver xX_prover xX_values xX_clauses xX_nets) (WM hM aM kM iM_stands iM_variables iM_rows iM_goals iM_differents iM_cases fM_from fM_to fM_whole fM_ways iM_plainRows fM_plainRow fM_kept fM_goalOver fM_goalUnder fM_goalMax fM_different)
    have hPc := hP.mem (fun q h => p9.mem_iff.mpr (List.mem_append_left _ h))
    have hDc := (hD.perm p9).left
    have hKc : va_K (dC, dI) vwCl (tX kX) _ := hK.sub [0, 1] rfl
    have hFc := freeG p9 hD hS hA
    refine va_callv (va_runV (As := [.int v10]) (rest := []) ⟨hx, hb, hml, hown, hts⟩ (Met.sV (m_X11_putNumber l dC dI hX aX kX hT hM fX_ready fX_sheet_9 dX_sheet_9 nX_sheet_9 iX_sheetLength_9 xX_reader xX_solver xX_prover xX_values xX_clauses xX_nets v10 b_fX_sheet_9 (by first | exact b_nX_sheet_9 | with_reducible assumption | exact ⟨by omega, by omega⟩ | assumption) (b_iX_sheetLength_9) (by first | with_reducible assumption | omega | (rw [iI_t (by omega) (by omega)]; omega) | (have h7 : (0 : Int32).toInt = 0 := (by decide); omega)) H.size) H) (cwV 1 hts gwsMX11_putVariable_1 rfl rfl rfl (by decide +kernel) ⟨by first | decide +kernel | (dsimp only [headSpec] <;> omega), by first | decide +kernel | (dsimp only [headSpec] <;> omega)⟩) ⟨fun a U g mk q => by obtain ⟨q0, qh, q1, qP, qK, qD⟩ := q; exact ⟨q0, qh, q1, qP, va_K.moved (u := U) (U := U.calling g mk a) (Vm.Alike.refl U.vm) qK, qD⟩, va_recv hK hP (ci := 11) (q0 := 0) rfl rfl, fun U hU9 hW => ⟨rfl, hU9, by rw [hU9], by rw [hU9]; exact hPc, va_K.moved hW.alike hKc, hDc.weaken (fun _ _ _ _ => trivial)⟩⟩ rfl rfl hl.1 rfl (lv_room (Nat.le_of_ble_eq_true rfl)) dX11_putVariable_68 ⟨by first | decide +kernel | (dsimp only [headSpec] <;> omega), by first | decide +kernel | (dsimp only [headSpec] <;> omega)⟩) hS (fun q _ h => hFc q h) hFc (fun u t9_ H locs ht hvm hw9 hB9 hz1 hk1 hS => ?_)
    revert u hw9 hB9
    refine fz_p4 ?_
    intro fX_sheet_11 dX_sheet_11 nX_sheet_11 iX_sheetLength_11 hw9 hB9
    try dsimp only at hw9 hB9
    revert hw9
    refine fz_a6 ?_
    intro b_fX_sheet_11 b_nX_sheet_11 b_iX_sheetLength_11 b_shl_11 f11_0 f11_1
    have hg1 := hB9.1.2.2.1
    rw [ht] at hg1
    have hg2 := hB9.1.2.2.2
    rw [ht] at hg2
    have hSz := hB9.2
    rw [ht] at hSz
    have p8 := cj_2_0 (WX hX aX kX hT hM fX_ready fX_sheet_11 dX_sheet_11 nX_sheet_11 iX_sheetLength_11 xX_reader xX_solver xX_prover xX_values xX_clauses xX_nets) (WM hM aM kM iM_stands iM_variables iM_rows iM_goals iM_differents iM_cases fM_from fM_to fM_whole fM_ways iM_plainRows fM_plainRow fM_kept fM_goalOver fM_goalUnder fM_goalMax fM_different)
    obtain ⟨hP, hD⟩ := frameG p9 p8 hP hD hk1 hFc (fz_P ht hB9.1.1) hB9.1.2.1
    have hz9 : H.size ≤ s.heap.size + (nX_sheet_11 / 32 - (nX_sheet / 32)) := by (try dsimp only at hg1); omega
    have hn9 : nS s.heap.size H ≤ (2 * nX_sheet_11 - (2 * nX_sheet)) := by rw [hSz.n hS0]; (try dsimp only at hg2); omega
    refine W.tight (cells2 := (nX_sheet_11 / 32 - (nX_sheet / 32))) (slots2 := (2 * nX_sheet_11 - (2 * nX_sheet))) hz9 hn9 ?_
    clear hz9 hn9 hz0 hn0 hS0 hSz hg1 hg2
    refine lv_aload_n hx hb dX11_putVariable_71 rfl (lv_at hl 0 rfl) ?_
    obtain ⟨qS292, hR292, hSS292⟩ := hE.2.2.2 4 _ rfl
    refine lv_ldcwS hx hb hown hR292 dX11_putVariable_72 ?_
    refine W.known (fun hz0 hn0 => ?_)
    have hS0 := hS.1
    have p9 := cj_2_0 (WX hX aX kX hT hM fX_ready fX_sheet_11 dX_sheet_11 nX_sheet_11 iX_sheetLength_11 xX_reader xX_solver xX_prover xX_values xX_clauses xX_nets) (WM hM aM kM iM_stands iM_variables iM_rows iM_goals iM_differents iM_cases fM_from fM_to fM_whole fM_ways iM_plainRows fM_plainRow fM_kept fM_goalOver fM_goalUnder fM_goalMax fM_different)
    have hPc := hP.mem (fun q h => p9.mem_iff.mpr (List.mem_append_left _ h))
    have hDc := (hD.perm p9).left
    have hKc : va_K (dC, dI) vwCl (tX kX) _ := hK.sub [0, 1] rfl
    have hFc := freeG p9 hD hS hA
    refine va_callv (va_runV (As := [.ref qS292]) (rest := []) ⟨hx, hb, hml, hown, hts⟩ (Met.sV (m_X11_putText l dC dI hX aX kX hT hM fX_ready fX_sheet_11 dX_sheet_11 nX_sheet_11 iX_sheetLength_11 xX_reader xX_solver xX_prover xX_values xX_clauses xX_nets qS292 3 (fun j => ([32, 59, 10] : List Int32).getD j 0) b_fX_sheet_11 (by first | exact b_nX_sheet_11 | with_reducible assumption | exact ⟨by omega, by omega⟩ | assumption) (b_iX_sheetLength_11) (by first | with_reducible assumption | omega | (rw [iI_t (by omega) (by omega)]; omega) | (have h7 : (0 : Int32).toInt = 0 := (by decide); omega)) (by decide) H.size) H) (cwV 1 hts gwsMX11_putVariable_0 rfl rfl rfl (by decide +kernel) ⟨by first | decide +kernel | (dsimp only [headSpec] <;> omega), by first | decide +kernel | (dsimp only [headSpec] <;> omega)⟩) ⟨fun a U g mk q => by obtain ⟨q0, qh, q1, qP, qK, qD, qE⟩ := q; exact ⟨q0, qh, q1, qP, va_K.moved (u := U) (U := U.calling g mk a) (Vm.Alike.refl U.vm) qK, qD, qE.same rfl⟩, va_recv hK hP (ci := 11) (q0 := 0) rfl rfl, fun U hU9 hW => ⟨rfl, hU9, by rw [hU9], by rw [hU9]; exact hPc, va_K.moved hW.alike hKc, hDc.weaken (fun _ _ _ _ => trivial), by rw [hU9]; exact (((hSS292 : (StrE qS292 3 (fun j => ([32, 59, 10] : List Int32).getD j 0)) A s s.heap).kept hS.2.1).narrow (fun q h => hFc q h)).warm hW⟩⟩ rfl rfl hl.1 rfl (lv_room (Nat.le_of_ble_eq_true rfl)) dX11_putVariable_75 ⟨by first | decide +kernel | (dsimp only [headSpec] <;> omega), by first | decide +kernel | (dsimp only [headSpec] <;> omega)⟩) hS (fun q _ h => hFc q h) hFc (fun u t9_ H locs ht hvm hw9 hB9 hz1 hk1 hS => ?_)
    revert u hw9 hB9
    refine fz_p4 ?_
    intro fX_sheet_12 dX_sheet_12 nX_sheet_12 iX_sheetLength_12 hw9 hB9
    try dsimp only at hw9 hB9
    revert hw9
    refine fz_a6 ?_
    intro b_fX_sheet_12 b_nX_sheet_12 b_iX_sheetLength_12 b_shl_12 f12_0 f12_1
    have hg1 := hB9.1.2.2.1
    rw [ht] at hg1
    have hg2 := hB9.1.2.2.2
    rw [ht] at hg2
    have hSz := hB9.2
    rw [ht] at hSz
    have p8 := cj_2_0 (WX hX aX kX hT hM fX_ready fX_sheet_12 dX_sheet_12 nX_sheet_12 iX_sheetLength_12 xX_reader xX_solver xX_prover xX_values xX_clauses xX_nets) (WM hM aM kM iM_stands iM_variables iM_rows iM_goals iM_differents iM_cases fM_from fM_to fM_whole fM_ways iM_plainRows fM_plainRow fM_kept fM_goalOver fM_goalUnder fM_goalMax fM_different)
    obtain ⟨hP, hD⟩ := frameG p9 p8 hP hD hk1 hFc (fz_P ht hB9.1.1) hB9.1.2.1
    have hz9 : H.size ≤ s.heap.size + (nX_sheet_12 / 32 - (nX_sheet / 32)) := by (try dsimp only at hg1); omega
    have hn9 : nS s.heap.size H ≤ (2 * nX_sheet_12 - (2 * nX_sheet)) := by rw [hSz.n hS0]; (try dsimp only at hg2); omega
    refine W.tight (cells2 := (nX_sheet_12 / 32 - (nX_sheet / 32))) (slots2 := (2 * nX_sheet_12 - (2 * nX_sheet))) hz9 hn9 ?_
    clear hz9 hn9 hz0 hn0 hS0 hSz hg1 hg2
    refine W.known (fun hz9 hn9 => ?_)
    refine W.widen (k := 5626) (n := 420000) (by omega) (by omega) ?_
    exact W.vret hx hb hr (fun t9_ ht hW => ⟨⟨(fX_sheet_12, dX_sheet_12, nX_sheet_12, iX_sheetLength_12), rfl, ⟨b_fX_sheet_12, (by (try dsimp only); exact (by first | exact b_nX_sheet_12 | with_reducible assumption | exact ⟨by omega, by omega⟩ | assumption)), b_iX_sheetLength_12, (by (try dsimp only); exact (by first | with_reducible assumption | omega | (rw [iI_t (by omega) (by omega)]; omega) | (have h7 : (0 : Int32).toInt = 0 := (by decide); omega))), (by (try dsimp only); omega), (by (try dsimp only); first | omega | (rw [iI_t (by omega) (by omega)]; omega))⟩, by rw [ht]; exact hP, hD, by rw [ht]; (try dsimp only); omega, by rw [ht]; (try dsimp only); omega⟩, hS.F ht⟩) hS.2.2 dX11_putVariable_78
theorem dX11_putDifferent_0 : decode cX11_putDifferent 0 = .ok (.aload_n 0, 1) := dk_42 (by decide +kernel)
theorem dX11_putDifferent_1 : decode cX11_putDifferent 1 = .ok (.ldc_w 326, 3) := dk_19 (by decide +kernel)
theorem dX11_putDifferent_4 : decode cX11_putDifferent 4 = .ok (.invokevirtual 279, 3) := dk_182 (by decide +kernel)
theorem dX11_putDifferent_7 : decode cX11_putDifferent 7 = .ok (.iconst 1, 1) := dk_4 (by decide +kernel)
theorem dX11_putDifferent_8 : decode cX11_putDifferent 8 = .ok (.istore_n 2, 1) := dk_61 (by decide +kernel)
theorem dX11_putDifferent_9 : decode cX11_putDifferent 9 = .ok (.iconst 0, 1) := dk_3 (by decide +kernel)
theorem dX11_putDifferent_10 : decode cX11_putDifferent 10 = .ok (.istore_n 3, 1) := dk_62 (by decide +kernel)
theorem dX11_putDifferent_11 : decode cX11_putDifferent 11 = .ok (.iload_n 3, 1) := dk_29 (by decide +kernel)
theorem dX11_putDifferent_12 : decode cX11_putDifferent 12 = .ok (.bipush 8, 2) := dk_16 (by decide +kernel)
theorem dX11_putDifferent_14 : decode cX11_putDifferent 14 = .ok (.if_icmp .ge 41, 3) := dk_162 (by decide +kernel)
theorem dX11_putDifferent_17 : decode cX11_putDifferent 17 = .ok (.iload_n 1, 1) := dk_27 (by decide +kernel)
theorem dX11_putDifferent_18 : decode cX11_putDifferent 18 = .ok (.iload_n 3, 1) := dk_29 (by decide +kernel)
theorem dX11_putDifferent_19 : decode cX11_putDifferent 19 = .ok (.ishr, 1) := dk_122 (by decide +kernel)
theorem dX11_putDifferent_20 : decode cX11_putDifferent 20 = .ok (.iconst 1, 1) := dk_4 (by decide +kernel)
theorem dX11_putDifferent_21 : decode cX11_putDifferent 21 = .ok (.iand, 1) := dk_126 (by decide +kernel)
theorem dX11_putDifferent_22 : decode cX11_putDifferent 22 = .ok (.ifCond .eq 27, 3) := dk_153 (by decide +kernel)
theorem dX11_putDifferent_25 : decode cX11_putDifferent 25 = .ok (.aload_n 0, 1) := dk_42 (by decide +kernel)
theorem dX11_putDifferent_26 : decode cX11_putDifferent 26 = .ok (.iload_n 2, 1) := dk_28 (by decide +kernel)
theorem dX11_putDifferent_27 : decode cX11_putDifferent 27 = .ok (.ifCond .eq 9, 3) := dk_153 (by decide +kernel)
theorem dX11_putDifferent_30 : decode cX11_putDifferent 30 = .ok (.ldc_w 324, 3) := dk_19 (by decide +kernel)
theorem dX11_putDifferent_33 : decode cX11_putDifferent 33 = .ok (.goto 6, 3) := dk_167 (by decide +kernel)
theorem dX11_putDifferent_36 : decode cX11_putDifferent 36 = .ok (.ldc_w 327, 3) := dk_19 (by decide +kernel)
theorem dX11_putDifferent_39 : decode cX11_putDifferent 39 = .ok (.invokevirtual 279, 3) := dk_182 (by decide +kernel)
theorem dX11_putDifferent_42 : decode cX11_putDifferent 42 = .ok (.aload_n 0, 1) := dk_42 (by decide +kernel)
theorem dX11_putDifferent_43 : decode cX11_putDifferent 43 = .ok (.iload_n 3, 1) := dk_29 (by decide +kernel)
theorem dX11_putDifferent_44 : decode cX11_putDifferent 44 = .ok (.invokevirtual 283, 3) := dk_182 (by decide +kernel)
theorem dX11_putDifferent_47 : decode cX11_putDifferent 47 = .ok (.iconst 0, 1) := dk_3 (by decide +kernel)
theorem dX11_putDifferent_48 : decode cX11_putDifferent 48 = .ok (.istore_n 2, 1) := dk_61 (by decide +kernel)
theorem dX11_putDifferent_49 : decode cX11_putDifferent 49 = .ok (.iinc 3 1, 3) := dk_132 (by decide +kernel)
theorem dX11_putDifferent_52 : decode cX11_putDifferent 52 = .ok (.goto (-41), 3) := dk_167 (by decide +kernel)
theorem dX11_putDifferent_55 : decode cX11_putDifferent 55 = .ok (.aload_n 0, 1) := dk_42 (by decide +kernel)
theorem dX11_putDifferent_56 : decode cX11_putDifferent 56 = .ok (.ldc_w 292, 3) := dk_19 (by decide +kernel)
theorem dX11_putDifferent_59 : decode cX11_putDifferent 59 = .ok (.invokevirtual 279, 3) := dk_182 (by decide +kernel)
theorem dX11_putDifferent_62 : decode cX11_putDifferent 62 = .ok (.return_, 1) := dk_177 (by decide +kernel)
def wsMX11_putDifferent : List Cond := .code yX11_putDifferent cX11_putDifferent 4 none :: ([] ++ (wsV RX11 279 RX11 yX11_putText wsMX11_putText) ++ (wsV RX11 283 RX11 yX11_putNumber wsMX11_putNumber))
theorem gwsMX11_putDifferent_0 : GoodIn wsMX11_putDifferent (wsV RX11 279 RX11 yX11_putText wsMX11_putText) := goodIn_sub (fun _ h => List.mem_cons_of_mem _ (List.mem_append_left _ (List.mem_append_right _ h))) (gdV (by decide +kernel) gdwsMX11_putText)
theorem gwsMX11_putDifferent_1 : GoodIn wsMX11_putDifferent (wsV RX11 283 RX11 yX11_putNumber wsMX11_putNumber) := goodIn_sub (fun _ h => List.mem_cons_of_mem _ (List.mem_append_right _ h)) (gdV (by decide +kernel) gdwsMX11_putNumber)
theorem gdwsMX11_putDifferent : wsMX11_putDifferent.all goodWord = true := gdC rfl (gdA (gdA (by decide +kernel : ([] : List Cond).all goodWord = true) (gdV (by decide +kernel) gdwsMX11_putText)) (gdV (by decide +kernel) gdwsMX11_putNumber))
set_option maxHeartbeats 4000000 in
set_option maxRecDepth 100000 in
/-- a different more -/
theorem m_X11_putDifferent (l : Launch) (hst : l.stackTraces = false) (dC : Nat → ClassId) (dI : Nat → Nat → Nat) (hX : Nat → Nat) (aX : Nat → Nat) (kX : Nat → ClassId) (hT : Nat → Nat) (hM : Nat → Nat) (fX_ready : Nat → Int32) (fX_sheet : Nat → Int32) (dX_sheet : Nat) (nX_sheet : Nat) (iX_sheetLength : Int32) (xX_reader : Value) (xX_solver : Value) (xX_prover : Value) (xX_values : Value) (xX_clauses : Value) (xX_nets : Value) (p1 : Int32) (b_fX_sheet : ∀ q : Nat, (-128) ≤ (fX_sheet q).toInt ∧ (fX_sheet q).toInt ≤ 127) (b_nX_sheet : 64 ≤ nX_sheet ∧ nX_sheet ≤ 60000) (b_iX_sheetLength : 0 ≤ iX_sheetLength.toInt ∧ iX_sheetLength.toInt ≤ 30000) (b_shl : iX_sheetLength.toInt ≤ ((nX_sheet : Nat) : Int)) (sz : Nat) : Met l yX11_putDifferent wsMX11_putDifferent ({ frames := 5, cells := 5626, slots := 420000, locals := 107 }) (va_Pc [.ref (hX 0), .int p1] (fun U => U.heap.size = sz ∧ va_P (dC, dI) vwCl (WX hX aX kX hT hM fX_ready fX_sheet dX_sheet nX_sheet iX_sheetLength xX_reader xX_solver xX_prover xX_values xX_clauses xX_nets) U.heap ∧ va_K (dC, dI) vwCl (tX kX) U ∧ va_D (fun _ => True) (WX hX aX kX hT hM fX_ready fX_sheet dX_sheet nX_sheet iX_sheetLength xX_reader xX_solver xX_prover xX_values xX_clauses xX_nets) ∧ CE (va_A (WX hX aX kX hT hM fX_ready fX_sheet dX_sheet nX_sheet iX_sheetLength xX_reader xX_solver xX_prover xX_values xX_clauses xX_nets) sz) U U.heap)) (va_Qv (fun (u : (Nat → Int32) × (Nat) × (Nat) × (Int32)) => (∀ q : Nat, (-128) ≤ ((u.1) q).toInt ∧ ((u.1) q).toInt ≤ 127) ∧ (64 ≤ (u.2.2.1) ∧ (u.2.2.1) ≤ 60000) ∧ (0 ≤ (u.2.2.2).toInt ∧ (u.2.2.2).toInt ≤ 30000) ∧ ((u.2.2.2).toInt ≤ (((u.2.2.1) : Nat) : Int)) ∧ (nX_sheet ≤ (u.2.2.1)) ∧ (iX_sheetLength.toInt ≤ (u.2.2.2).toInt)) (fun (u : (Nat → Int32) × (Nat) × (Nat) × (Int32)) t => va_P (dC, dI) vwCl (WX hX aX kX hT hM fX_ready (u.1) (u.2.1) (u.2.2.1) (u.2.2.2) xX_reader xX_solver xX_prover xX_values xX_clauses xX_nets) t.heap ∧ va_D (va_A (WX hX aX kX hT hM fX_ready fX_sheet dX_sheet nX_sheet iX_sheetLength xX_reader xX_solver xX_prover xX_values xX_clauses xX_nets) sz) (WX hX aX kX hT hM fX_ready (u.1) (u.2.1) (u.2.2.1) (u.2.2.2) xX_reader xX_solver xX_prover xX_values xX_clauses xX_nets) ∧ t.heap.size + (nX_sheet / 32) ≤ sz + ((u.2.2.1) / 32) ∧ nS sz t.heap + (2 * nX_sheet) ≤ (2 * (u.2.2.1))) (va_A (WX hX aX kX hT hM fX_ready fX_sheet dX_sheet nX_sheet iX_sheetLength xX_reader xX_solver xX_prover xX_values xX_clauses xX_nets) sz)) 5626 420000 (va_A (WX hX aX kX hT hM fX_ready fX_sheet dX_sheet nX_sheet iX_sheetLength xX_reader xX_solver xX_prover xX_values xX_clauses xX_nets) sz) := by
  refine Met.ofW (cc := cX11_putDifferent) (maxL := 4) (ret := none) (by decide) rfl ?_
  intro p e s m args below meth c s₁ B hml hv
  obtain ⟨rfl, hsz, hP, hK, hD0, hE⟩ := hv
  have hx := B.exec
  have hb := B.bytes
  have hr := B.returns
  have hts := atoms_spec (ws := wsMX11_putDifferent) B.pre
  have hown : s.vm.findClass RX11 = some m.cls := findClass_of_methodNamed B.named
  have hlocks := B.notSynchronized
  subst hsz
  have hD := hD0.self (sz := s.heap.size)
  generalize hAe : va_A (WX hX aX kX hT hM fX_ready fX_sheet dX_sheet nX_sheet iX_sheetLength xX_reader xX_solver xX_prover xX_values xX_clauses xX_nets) s.heap.size = A at hD hE ⊢
  have hA : ∀ q : Nat, s.heap.size ≤ q → A q := fun q h => by rw [← hAe]; exact Or.inr h
  have hS : va_S A s.heap s.heap [] := va_S.rf
  have hl := lv_entry ([.ref (hX 0), .int p1]) (n := 4) (Nat.le_of_ble_eq_true rfl)
  rw [lg_entry_eq]
  generalize (lg_sl ([.ref (hX 0), .int p1]) ++ List.replicate (4 - (lg_sl ([.ref (hX 0), .int p1])).length) Slot.unset).toArray = ls at hl ⊢
  have hl : lv_has ls 4 [(0, .ref (hX 0)), (1, .int p1)] := hl
  refine W.widen (k := (nX_sheet / 32 - (nX_sheet / 32))) (n := (2 * nX_sheet - (2 * nX_sheet))) (Nat.zero_le _) (Nat.zero_le _) ?_
  refine lv_aload_n hx hb dX11_putDifferent_0 rfl (lv_at hl 0 rfl) ?_
  obtain ⟨qS326, hR326, hSS326⟩ := hE.2.2.2 16 _ rfl
  refine lv_ldcwS hx hb hown hR326 dX11_putDifferent_1 ?_
  refine W.known (fun hz0 hn0 => ?_)
  have hS0 := hS.1
  have hFc := allFree hD hS hA
  refine va_callv (va_runV (As := [.ref qS326]) (rest := []) ⟨hx, hb, hml, hown, hts⟩ (Met.sV (m_X11_putText l dC dI hX aX kX hT hM fX_ready fX_sheet dX_sheet nX_sheet iX_sheetLength xX_reader xX_solver xX_prover xX_values xX_clauses xX_nets qS326 9 (fun j => ([100, 105, 102, 102, 101, 114, 101, 110, 116] : List Int32).getD j 0) b_fX_sheet (by first | exact b_nX_sheet | with_reducible assumption | exact ⟨by omega, by omega⟩ | assumption) (b_iX_sheetLength) (by first | with_reducible assumption | omega | (rw [iI_t (by omega) (by omega)]; omega) | (have h7 : (0 : Int32).toInt = 0 := (by decide); omega)) (by decide) s.heap.size) s.heap) (cwV 1 hts gwsMX11_putDifferent_0 rfl rfl rfl (by decide +kernel) ⟨by first | decide +kernel | (dsimp only [headSpec] <;> omega), by first | decide +kernel | (dsimp only [headSpec] <;> omega)⟩) ⟨fun a U g mk q => by obtain ⟨q0, qh, q1, qP, qK, qD, qE⟩ := q; exact ⟨q0, qh, q1, qP, va_K.moved (u := U) (U := U.calling g mk a) (Vm.Alike.refl U.vm) qK, qD, qE.same rfl⟩, va_recv hK hP (ci := 11) (q0 := 0) rfl rfl, fun U hU9 hW => ⟨rfl, hU9, by rw [hU9], by rw [hU9]; exact hP, va_K.moved hW.alike hK, hD.weaken (fun _ _ _ _ => trivial), by rw [hU9]; exact (((hSS326 : (StrE qS326 9 (fun j => ([100, 105, 102, 102, 101, 114, 101, 110, 116] : List Int32).getD j 0)) A s s.heap).kept hS.2.1).narrow (fun q h => hFc q h)).warm hW⟩⟩ rfl rfl hl.1 rfl (lv_room (Nat.le_of_ble_eq_true rfl)) dX11_putDifferent_4 ⟨by first | decide +kernel | (dsimp only [headSpec] <;> omega), by first | decide +kernel | (dsimp only [headSpec] <;> omega)⟩) hS (fun q _ h => hFc q h) hFc (fun u t9_ H locs ht hvm hw9 hB9 hz1 hk1 hS => ?_)
  revert u hw9 hB9
  refine fz_p4 ?_
  intro fX_sheet_1 dX_sheet_1 nX_sheet_1 iX_sheetLength_1 hw9 hB9
  try dsimp only at hw9 hB9
  revert hw9
  refine fz_a6 ?_
  intro b_fX_sheet_1 b_nX_sheet_1 b_iX_sheetLength_1 b_shl_1 f1_0 f1_1
  have hg1 := hB9.1.2.2.1
  rw [ht] at hg1
  have hg2 := hB9.1.2.2.2
  rw [ht] at hg2
  have hSz := hB9.2
  rw [ht] at hSz
  have hP : va_P (dC, dI) vwCl (WX hX aX kX hT hM fX_ready fX_sheet_1 dX_sheet_1 nX_sheet_1 iX_sheetLength_1 xX_reader xX_solver xX_prover xX_values xX_clauses xX_nets) H := fz_P ht hB9.1.1
  have hD := fz_sd hP (hB9.1.2.1.weaken (fun _ q _ h => hFc q.1 h)) rfl
  have hz9 : H.size ≤ s.heap.size + (nX_sheet_1 / 32 - (nX_sheet / 32)) := by (try dsimp only at hg1); omega
  have hn9 : nS s.heap.size H ≤ (2 * nX_sheet_1 - (2 * nX_sheet)) := by rw [hSz.n hS0]; (try dsimp only at hg2); omega
  refine W.tight (cells2 := (nX_sheet_1 / 32 - (nX_sheet / 32))) (slots2 := (2 * nX_sheet_1 - (2 * nX_sheet))) hz9 hn9 ?_
  clear hz9 hn9 hz0 hn0 hS0 hSz hg1 hg2
  refine lv_iconst (v := 1) hx hb dX11_putDifferent_7 (by decide) ?_
  refine lv_istore_n hx hb dX11_putDifferent_8 rfl hl (by decide) rfl (fun ls (hl : lv_has ls _ ([(2, .int 1), (0, .ref (hX 0)), (1, .int p1)])) => ?_)
  refine lv_iconst (v := 0) hx hb dX11_putDifferent_9 (by decide) ?_
  refine lv_istore_n hx hb dX11_putDifferent_10 rfl hl (by decide) rfl (fun ls (hl : lv_has ls _ ([(3, .int 0), (2, .int 1), (0, .ref (hX 0)), (1, .int p1)])) => ?_)
  have hl : lv_has _ _ ([(3, .int 0), (2, .int 1), (0, .ref (hX 0)), (1, .int p1)]) := lv_sub hl [0, 1, 2, 3] rfl
  refine (fun (loop : ∀ (n9 : Nat) (fX_sheet_x11 : Nat → Int32) (dX_sheet_x11 : Nat) (nX_sheet_x11 : Nat) (iX_sheetLength_x11 : Int32) (l3_x11 : Int32) (l2_x11 : Int32) (H : Heap) (locs : List Loc) (ls : Array Slot), (∀ q : Nat, (-128) ≤ (fX_sheet_x11 q).toInt ∧ (fX_sheet_x11 q).toInt ≤ 127) → (64 ≤ nX_sheet_x11 ∧ nX_sheet_x11 ≤ 60000) → (0 ≤ iX_sheetLength_x11.toInt ∧ iX_sheetLength_x11.toInt ≤ 30000) → (0 ≤ l3_x11.toInt ∧ l3_x11.toInt ≤ 8) → (0 ≤ l2_x11.toInt ∧ l2_x11.toInt ≤ 1) → (iX_sheetLength_x11.toInt ≤ ((nX_sheet_x11 : Nat) : Int)) → (iX_sheetLength.toInt ≤ iX_sheetLength_x11.toInt) → (nX_sheet ≤ nX_sheet_x11) → (8 - l3_x11.toInt < ((n9 : Nat) : Int)) → va_P (dC, dI) vwCl (WX hX aX kX hT hM fX_ready fX_sheet_x11 dX_sheet_x11 nX_sheet_x11 iX_sheetLength_x11 xX_reader xX_solver xX_prover xX_values xX_clauses xX_nets) H → va_D A (WX hX aX kX hT hM fX_ready fX_sheet_x11 dX_sheet_x11 nX_sheet_x11 iX_sheetLength_x11 xX_reader xX_solver xX_prover xX_values xX_clauses xX_nets) → va_S A s.heap H locs → lv_has ls 4 [(3, .int l3_x11), (2, .int l2_x11), (0, .ref (hX 0)), (1, .int p1)] → W p l e _ s m _ below meth c H locs (nX_sheet_x11 / 32 - (nX_sheet / 32)) (2 * nX_sheet_x11 - (2 * nX_sheet)) _ (F0 m 11 ls [])) => loop (9) fX_sheet_1 dX_sheet_1 nX_sheet_1 iX_sheetLength_1 0 1 _ _ _ b_fX_sheet_1 (by first | exact b_nX_sheet_1 | with_reducible assumption | exact ⟨by omega, by omega⟩ | assumption) (b_iX_sheetLength_1) (show 0 ≤ (0 : Int32).toInt ∧ (0 : Int32).toInt ≤ 8 from by decide) (show 0 ≤ (1 : Int32).toInt ∧ (1 : Int32).toInt ≤ 1 from by decide) (by first | with_reducible assumption | omega | (rw [iI_t (by omega) (by omega)]; omega) | (have h7 : (0 : Int32).toInt = 0 := (by decide); omega)) (show iX_sheetLength.toInt ≤ iX_sheetLength_1.toInt from by omega) (show nX_sheet ≤ nX_sheet_1 from by omega) ((by have e9 : (0 : Int32).toInt = 0 := (by decide : (0 : Int32).toInt = 0); omega)) hP hD hS hl) ?_
  intro n9
  induction n9 with
  | zero => intro fX_sheet_x11 dX_sheet_x11 nX_sheet_x11 iX_sheetLength_x11 l3_x11 l2_x11 H locs ls b_fX_sheet_x11 b_nX_sheet_x11 b_iX_sheetLength_x11 b_l3_x11 b_l2_x11 b_shl_x11 hlx hgm0_x11 hf9; exact False.elim (by omega)
  | succ n9 ihx11 =>
    intro fX_sheet_x11 dX_sheet_x11 nX_sheet_x11 iX_sheetLength_x11 l3_x11 l2_x11 H locs ls b_fX_sheet_x11 b_nX_sheet_x11 b_iX_sheetLength_x11 b_l3_x11 b_l2_x11 b_shl_x11 hlx hgm0_x11 hfx11 hP hD hS hl
    refine lv_iload_n hx hb dX11_putDifferent_11 rfl (lv_at hl 0 rfl) ?_
    refine lv_bipush (v := 8) hx hb dX11_putDifferent_12 (by decide) ?_
    refine lv_icmp_ge (tgt := 55) hx hb dX11_putDifferent_14 (by decide) (fun c_14 => ?_) (fun c_14 => ?_)
    · have t_14 : l3_x11.toInt ≥ 8 := toI_ge c_14 rfl (by decide : (8 : Int32).toInt = 8)
      refine lv_aload_n hx hb dX11_putDifferent_55 rfl (lv_at hl 2 rfl) ?_
      obtain ⟨qS292, hR292, hSS292⟩ := hE.2.2.2 4 _ rfl
      refine lv_ldcwS hx hb hown hR292 dX11_putDifferent_56 ?_
      refine W.known (fun hz0 hn0 => ?_)
      have hS0 := hS.1
      have hFc := allFree hD hS hA
      refine va_callv (va_runV (As := [.ref qS292]) (rest := []) ⟨hx, hb, hml, hown, hts⟩ (Met.sV (m_X11_putText l dC dI hX aX kX hT hM fX_ready fX_sheet_x11 dX_sheet_x11 nX_sheet_x11 iX_sheetLength_x11 xX_reader xX_solver xX_prover xX_values xX_clauses xX_nets qS292 3 (fun j => ([32, 59, 10] : List Int32).getD j 0) b_fX_sheet_x11 (by first | exact b_nX_sheet_x11 | with_reducible assumption | exact ⟨by omega, by omega⟩ | assumption) (b_iX_sheetLength_x11) (by first | with_reducible assumption | omega | (rw [iI_t (by omega) (by omega)]; omega) | (have h7 : (0 : Int32).toInt = 0 := (by decide); omega)) (by decide) H.size) H) (cwV 1 hts gwsMX11_putDifferent_0 rfl rfl rfl (by decide +kernel) ⟨by first | decide +kernel | (dsimp only [headSpec] <;> omega), by first | decide +kernel | (dsimp only [headSpec] <;> omega)⟩) ⟨fun a U g mk q => by obtain ⟨q0, qh, q1, qP, qK, qD, qE⟩ := q; exact ⟨q0, qh, q1, qP, va_K.moved (u := U) (U := U.calling g mk a) (Vm.Alike.refl U.vm) qK, qD, qE.same rfl⟩, va_recv hK hP (ci := 11) (q0 := 0) rfl rfl, fun U hU9 hW => ⟨rfl, hU9, by rw [hU9], by rw [hU9]; exact hP, va_K.moved hW.alike hK, hD.weaken (fun _ _ _ _ => trivial), by rw [hU9]; exact (((hSS292 : (StrE qS292 3 (fun j => ([32, 59, 10] : List Int32).getD j 0)) A s s.heap).kept hS.2.1).narrow (fun q h => hFc q h)).warm hW⟩⟩ rfl rfl hl.1 rfl (lv_room (Nat.le_of_ble_eq_true rfl)) dX11_putDifferent_59 ⟨by first | decide +kernel | (dsimp only [headSpec] <;> omega), by first | decide +kernel | (dsimp only [headSpec] <;> omega)⟩) hS (fun q _ h => hFc q h) hFc (fun u t9_ H locs ht hvm hw9 hB9 hz1 hk1 hS => ?_)
      revert u hw9 hB9
      refine fz_p4 ?_
      intro fX_sheet_39 dX_sheet_39 nX_sheet_39 iX_sheetLength_39 hw9 hB9
      try dsimp only at hw9 hB9
      revert hw9
      refine fz_a6 ?_
      intro b_fX_sheet_39 b_nX_sheet_39 b_iX_sheetLength_39 b_shl_39 f39_0 f39_1
      have hg1 := hB9.1.2.2.1
      rw [ht] at hg1
      have hg2 := hB9.1.2.2.2
      rw [ht] at hg2
      have hSz := hB9.2
      rw [ht] at hSz
      have hP : va_P (dC, dI) vwCl (WX hX aX kX hT hM fX_ready fX_sheet_39 dX_sheet_39 nX_sheet_39 iX_sheetLength_39 xX_reader xX_solver xX_prover xX_values xX_clauses xX_nets) H := fz_P ht hB9.1.1
      have hD := fz_sd hP (hB9.1.2.1.weaken (fun _ q _ h => hFc q.1 h)) rfl
      have hz9 : H.size ≤ s.heap.size + (nX_sheet_39 / 32 - (nX_sheet / 32)) := by (try dsimp only at hg1); omega
      have hn9 : nS s.heap.size H ≤ (2 * nX_sheet_39 - (2 * nX_sheet)) := by rw [hSz.n hS0]; (try dsimp only at hg2); omega
      refine W.tight (cells2 := (nX_sheet_39 / 32 - (nX_sheet / 32))) (slots2 := (2 * nX_sheet_39 - (2 * nX_sheet))) hz9 hn9 ?_
      clear hz9 hn9 hz0 hn0 hS0 hSz hg1 hg2
      refine W.known (fun hz9 hn9 => ?_)
      refine W.widen (k := 5626) (n := 420000) (by omega) (by omega) ?_
      exact W.vret hx hb hr (fun t9_ ht hW => ⟨⟨(fX_sheet_39, dX_sheet_39, nX_sheet_39, iX_sheetLength_39), rfl, ⟨b_fX_sheet_39, (by (try dsimp only); exact (by first | exact b_nX_sheet_39 | with_reducible assumption | exact ⟨by omega, by omega⟩ | assumption)), b_iX_sheetLength_39, (by (try dsimp only); exact (by first | with_reducible assumption | omega | (rw [iI_t (by omega) (by omega)]; omega) | (have h7 : (0 : Int32).toInt = 0 := (by decide); omega))), (by (try dsimp only); omega), (by (try dsimp only); first | omega | (rw [iI_t (by omega) (by omega)]; omega))⟩, by rw [ht]; exact hP, hD, by rw [ht]; (try dsimp only); omega, by rw [ht]; (try dsimp only); omega⟩, hS.F ht⟩) hS.2.2 dX11_putDifferent_62
    · have t_14 : ¬ l3_x11.toInt ≥ 8 := toI_nge c_14 rfl (by decide : (8 : Int32).toInt = 8)
      refine lv_iload_n hx hb dX11_putDifferent_17 rfl (lv_at hl 3 rfl) ?_
      refine lv_iload_n hx hb dX11_putDifferent_18 rfl (lv_at hl 0 rfl) ?_
      refine lv_ishr hx hb dX11_putDifferent_19 ?_
      refine lv_topi (fun v40 hv40 => ?_)
      clear hv40
      refine lv_iconst (v := 1) hx hb dX11_putDifferent_20 (by decide) ?_
      refine lv_iand hx hb dX11_putDifferent_21 ?_
      refine lv_topi (fun v41 hv41 => ?_)
      have b_v41 : 0 ≤ v41.toInt ∧ v41.toInt ≤ 1 := by rw [hv41]; exact and_rng _ (by decide) (by decide)
      clear hv41
      refine W.known (fun hzk hnk => ?_)
      refine W.widen (k := 1875) (n := 120000) (by omega) (by omega) ?_
      refine W.cut (pc := 49) (fun H locs ls stk => ∃ (fX_sheet_j10 : Nat → Int32) (dX_sheet_j10 : Nat) (nX_sheet_j10 : Nat) (iX_sheetLength_j10 : Int32) (l2_j10 : Int32), (∀ q : Nat, (-128) ≤ (fX_sheet_j10 q).toInt ∧ (fX_sheet_j10 q).toInt ≤ 127) ∧ (64 ≤ nX_sheet_j10 ∧ nX_sheet_j10 ≤ 60000) ∧ (0 ≤ iX_sheetLength_j10.toInt ∧ iX_sheetLength_j10.toInt ≤ 30000) ∧ (0 ≤ l2_j10.toInt ∧ l2_j10.toInt ≤ 1) ∧ (iX_sheetLength_j10.toInt ≤ ((nX_sheet_j10 : Nat) : Int)) ∧ (iX_sheetLength.toInt ≤ iX_sheetLength_j10.toInt) ∧ (nX_sheet ≤ nX_sheet_j10) ∧ (H.size + (nX_sheet / 32) ≤ s.heap.size + (nX_sheet_j10 / 32) ∧ nS s.heap.size H + (2 * nX_sheet) ≤ (2 * nX_sheet_j10)) ∧  stk = [] ∧ va_P (dC, dI) vwCl (WX hX aX kX hT hM fX_ready fX_sheet_j10 dX_sheet_j10 nX_sheet_j10 iX_sheetLength_j10 xX_reader xX_solver xX_prover xX_values xX_clauses xX_nets) H ∧ va_D A (WX hX aX kX hT hM fX_ready fX_sheet_j10 dX_sheet_j10 nX_sheet_j10 iX_sheetLength_j10 xX_reader xX_solver xX_prover xX_values xX_clauses xX_nets) ∧ va_S A s.heap H locs ∧ lv_has ls 4 [(3, .int l3_x11), (2, .int l2_j10), (0, .ref (hX 0)), (1, .int p1)]) (fun join10 => ?_) ?_
      · refine W.tight (cells2 := (nX_sheet_x11 / 32 - (nX_sheet / 32))) (slots2 := (2 * nX_sheet_x11 - (2 * nX_sheet))) hzk hnk ?_
        refine lv_if_eq (tgt := 49) hx hb dX11_putDifferent_22 (by decide) (fun c_22 => ?_) (fun c_22 => ?_)
        · have t_22 : v41.toInt = 0 := toI_eq c_22 rfl (by decide : (0 : Int32).toInt = 0)
          have hl : lv_has _ _ ([(3, .int l3_x11), (2, .int l2_x11), (0, .ref (hX 0)), (1, .int p1)]) := lv_sub hl [0, 1, 2, 3] rfl
          refine W.known (fun hza hna => ?_)
          refine W.widen (k := 1875) (n := 120000) (by omega) (by omega) ?_
          exact join10 _ _ _ _ ⟨fX_sheet_x11, dX_sheet_x11, nX_sheet_x11, iX_sheetLength_x11, l2_x11, b_fX_sheet_x11, (by first | exact b_nX_sheet_x11 | with_reducible assumption | exact ⟨by omega, by omega⟩ | assumption), (b_iX_sheetLength_x11), (b_l2_x11), (by first | with_reducible assumption | omega | (rw [iI_t (by omega) (by omega)]; omega) | (have h7 : (0 : Int32).toInt = 0 := (by decide); omega)), (show iX_sheetLength.toInt ≤ iX_sheetLength_x11.toInt from by omega), (show nX_sheet ≤ nX_sheet_x11 from by omega), ⟨by omega, by omega⟩, rfl, hP, hD, hS, hl⟩
        · have t_22 : ¬ v41.toInt = 0 := toI_neq c_22 rfl (by decide : (0 : Int32).toInt = 0)
          refine lv_aload_n hx hb dX11_putDifferent_25 rfl (lv_at hl 2 rfl) ?_
          refine lv_iload_n hx hb dX11_putDifferent_26 rfl (lv_at hl 1 rfl) ?_
          refine lv_if_eq (tgt := 36) hx hb dX11_putDifferent_27 (by decide) (fun c_27 => ?_) (fun c_27 => ?_)
          · have t_27 : l2_x11.toInt = 0 := toI_eq c_27 rfl (by decide : (0 : Int32).toInt = 0)
            obtain ⟨qS327, hR327, hSS327⟩ := hE.2.2.2 17 _ rfl
            refine lv_ldcwS hx hb hown hR327 dX11_putDifferent_36 ?_
            refine W.known (fun hz0 hn0 => ?_)
            have hS0 := hS.1
            have hFc := allFree hD hS hA
            refine va_callv (va_runV (As := [.ref qS327]) (rest := []) ⟨hx, hb, hml, hown, hts⟩ (Met.sV (m_X11_putText l dC dI hX aX kX hT hM fX_ready fX_sheet_x11 dX_sheet_x11 nX_sheet_x11 iX_sheetLength_x11 xX_reader xX_solver xX_prover xX_values xX_clauses xX_nets qS327 4 (fun j => ([32, 44, 32, 120] : List Int32).getD j 0) b_fX_sheet_x11 (by first | exact b_nX_sheet_x11 | with_reducible assumption | exact ⟨by omega, by omega⟩ | assumption) (b_iX_sheetLength_x11) (by first | with_reducible assumption | omega | (rw [iI_t (by omega) (by omega)]; omega) | (have h7 : (0 : Int32).toInt = 0 := (by decide); omega)) (by decide) H.size) H) (cwV 1 hts gwsMX11_putDifferent_0 rfl rfl rfl (by decide +kernel) ⟨by first | decide +kernel | (dsimp only [headSpec] <;> omega), by first | decide +kernel | (dsimp only [headSpec] <;> omega)⟩) ⟨fun a U g mk q => by obtain ⟨q0, qh, q1, qP, qK, qD, qE⟩ := q; exact ⟨q0, qh, q1, qP, va_K.moved (u := U) (U := U.calling g mk a) (Vm.Alike.refl U.vm) qK, qD, qE.same rfl⟩, va_recv hK hP (ci := 11) (q0 := 0) rfl rfl, fun U hU9 hW => ⟨rfl, hU9, by rw [hU9], by rw [hU9]; exact hP, va_K.moved hW.alike hK, hD.weaken (fun _ _ _ _ => trivial), by rw [hU9]; exact (((hSS327 : (StrE qS327 4 (fun j => ([32, 44, 32, 120] : List Int32).getD j 0)) A s s.heap).kept hS.2.1).narrow (fun q h => hFc q h)).warm hW⟩⟩ rfl rfl hl.1 rfl (lv_room (Nat.le_of_ble_eq_true rfl)) dX11_putDifferent_39 ⟨by first | decide +kernel | (dsimp only [headSpec] <;> omega), by first | decide +kernel | (dsimp only [headSpec] <;> omega)⟩) hS (fun q _ h => hFc q h) hFc (fun u t9_ H locs ht hvm hw9 hB9 hz1 hk1 hS => ?_)
            revert u hw9 hB9
            refine fz_p4 ?_
            intro fX_sheet_46 dX_sheet_46 nX_sheet_46 iX_sheetLength_46 hw9 hB9
            try dsimp only at hw9 hB9
            revert hw9
            refine fz_a6 ?_
            intro b_fX_sheet_46 b_nX_sheet_46 b_iX_sheetLength_46 b_shl_46 f46_0 f46_1
            have hg1 := hB9.1.2.2.1
            rw [ht] at hg1
            have hg2 := hB9.1.2.2.2
            rw [ht] at hg2
            have hSz := hB9.2
            rw [ht] at hSz
            have hP : va_P (dC, dI) vwCl (WX hX aX kX hT hM fX_ready fX_sheet_46 dX_sheet_46 nX_sheet_46 iX_sheetLength_46 xX_reader xX_solver xX_prover xX_values xX_clauses xX_nets) H := fz_P ht hB9.1.1
            have hD := fz_sd hP (hB9.1.2.1.weaken (fun _ q _ h => hFc q.1 h)) rfl
            have hz9 : H.size ≤ s.heap.size + (nX_sheet_46 / 32 - (nX_sheet / 32)) := by (try dsimp only at hg1); omega
            have hn9 : nS s.heap.size H ≤ (2 * nX_sheet_46 - (2 * nX_sheet)) := by rw [hSz.n hS0]; (try dsimp only at hg2); omega
            refine W.tight (cells2 := (nX_sheet_46 / 32 - (nX_sheet / 32))) (slots2 := (2 * nX_sheet_46 - (2 * nX_sheet))) hz9 hn9 ?_
            clear hz9 hn9 hz0 hn0 hS0 hSz hg1 hg2
            refine lv_aload_n hx hb dX11_putDifferent_42 rfl (lv_at hl 2 rfl) ?_
            refine lv_iload_n hx hb dX11_putDifferent_43 rfl (lv_at hl 0 rfl) ?_
            refine W.known (fun hz0 hn0 => ?_)
            have hS0 := hS.1
            have hFc := allFree hD hS hA
            refine va_callv (va_runV (As := [.int l3_x11]) (rest := []) ⟨hx, hb, hml, hown, hts⟩ (Met.sV (m_X11_putNumber l dC dI hX aX kX hT hM fX_ready fX_sheet_46 dX_sheet_46 nX_sheet_46 iX_sheetLength_46 xX_reader xX_solver xX_prover xX_values xX_clauses xX_nets l3_x11 b_fX_sheet_46 (by first | exact b_nX_sheet_46 | with_reducible assumption | exact ⟨by omega, by omega⟩ | assumption) (b_iX_sheetLength_46) (by first | with_reducible assumption | omega | (rw [iI_t (by omega) (by omega)]; omega) | (have h7 : (0 : Int32).toInt = 0 := (by decide); omega)) H.size) H) (cwV 1 hts gwsMX11_putDifferent_1 rfl rfl rfl (by decide +kernel) ⟨by first | decide +kernel | (dsimp only [headSpec] <;> omega), by first | decide +kernel | (dsimp only [headSpec] <;> omega)⟩) ⟨fun a U g mk q => by obtain ⟨q0, qh, q1, qP, qK, qD⟩ := q; exact ⟨q0, qh, q1, qP, va_K.moved (u := U) (U := U.calling g mk a) (Vm.Alike.refl U.vm) qK, qD⟩, va_recv hK hP (ci := 11) (q0 := 0) rfl rfl, fun U hU9 hW => ⟨rfl, hU9, by rw [hU9], by rw [hU9]; exact hP, va_K.moved hW.alike hK, hD.weaken (fun _ _ _ _ => trivial)⟩⟩ rfl rfl hl.1 rfl (lv_room (Nat.le_of_ble_eq_true rfl)) dX11_putDifferent_44 ⟨by first | decide +kernel | (dsimp only [headSpec] <;> omega), by first | decide +kernel | (dsimp only [headSpec] <;> omega)⟩) hS (fun q _ h => hFc q h) hFc (fun u t9_ H locs ht hvm hw9 hB9 hz1 hk1 hS => ?_)
            revert u hw9 hB9
            refine fz_p4 ?_
            intro fX_sheet_47 dX_sheet_47 nX_sheet_47 iX_sheetLength_47 hw9 hB9
            try dsimp only at hw9 hB9
            revert hw9
            refine fz_a6 ?_
            intro b_fX_sheet_47 b_nX_sheet_47 b_iX_sheetLength_47 b_shl_47 f47_0 f47_1
            have hg1 := hB9.1.2.2.1
            rw [ht] at hg1
            have hg2 := hB9.1.2.2.2
            rw [ht] at hg2
            have hSz := hB9.2
            rw [ht] at hSz
            have hP : va_P (dC, dI) vwCl (WX hX aX kX hT hM fX_ready fX_sheet_47 dX_sheet_47 nX_sheet_47 iX_sheetLength_47 xX_reader xX_solver xX_prover xX_values xX_clauses xX_nets) H := fz_P ht hB9.1.1
            have hD := fz_sd hP (hB9.1.2.1.weaken (fun _ q _ h => hFc q.1 h)) rfl
            have hz9 : H.size ≤ s.heap.size + (nX_sheet_47 / 32 - (nX_sheet / 32)) := by (try dsimp only at hg1); omega
            have hn9 : nS s.heap.size H ≤ (2 * nX_sheet_47 - (2 * nX_sheet)) := by rw [hSz.n hS0]; (try dsimp only at hg2); omega
            refine W.tight (cells2 := (nX_sheet_47 / 32 - (nX_sheet / 32))) (slots2 := (2 * nX_sheet_47 - (2 * nX_sheet))) hz9 hn9 ?_
            clear hz9 hn9 hz0 hn0 hS0 hSz hg1 hg2
            refine lv_iconst (v := 0) hx hb dX11_putDifferent_47 (by decide) ?_
            refine lv_istore_n hx hb dX11_putDifferent_48 rfl hl (by decide) rfl (fun ls (hl : lv_has ls _ ([(2, .int 0), (3, .int l3_x11), (0, .ref (hX 0)), (1, .int p1)])) => ?_)
            have hl : lv_has _ _ ([(3, .int l3_x11), (2, .int 0), (0, .ref (hX 0)), (1, .int p1)]) := lv_sub hl [1, 0, 2, 3] rfl
            refine W.known (fun hza hna => ?_)
            refine W.widen (k := 1875) (n := 120000) (by omega) (by omega) ?_
            exact join10 _ _ _ _ ⟨fX_sheet_47, dX_sheet_47, nX_sheet_47, iX_sheetLength_47, 0, b_fX_sheet_47, (by first | exact b_nX_sheet_47 | with_reducible assumption | exact ⟨by omega, by omega⟩ | assumption), (b_iX_sheetLength_47), (show 0 ≤ (0 : Int32).toInt ∧ (0 : Int32).toInt ≤ 1 from by decide), (by first | with_reducible assumption | omega | (rw [iI_t (by omega) (by omega)]; omega) | (have h7 : (0 : Int32).toInt = 0 := (by decide); omega)), (show iX_sheetLength.toInt ≤ iX_sheetLength_47.toInt from by omega), (show nX_sheet ≤ nX_sheet_47 from by omega), ⟨by omega, by omega⟩, rfl, hP, hD, hS, hl⟩
          · have t_27 : ¬ l2_x11.toInt = 0 := toI_neq c_27 rfl (by decide : (0 : Int32).toInt = 0)
            obtain ⟨qS324, hR324, hSS324⟩ := hE.2.2.2 15 _ rfl
            refine lv_ldcwS hx hb hown hR324 dX11_putDifferent_30 ?_
            refine lv_goto (tgt := 39) hx hb dX11_putDifferent_33 (by decide) ?_
            refine W.known (fun hz0 hn0 => ?_)
            have hS0 := hS.1
            have hFc := allFree hD hS hA
            refine va_callv (va_runV (As := [.ref qS324]) (rest := []) ⟨hx, hb, hml, hown, hts⟩ (Met.sV (m_X11_putText l dC dI hX aX kX hT hM fX_ready fX_sheet_x11 dX_sheet_x11 nX_sheet_x11 iX_sheetLength_x11 xX_reader xX_solver xX_prover xX_values xX_clauses xX_nets qS324 2 (fun j => ([32, 120] : List Int32).getD j 0) b_fX_sheet_x11 (by first | exact b_nX_sheet_x11 | with_reducible assumption | exact ⟨by omega, by omega⟩ | assumption) (b_iX_sheetLength_x11) (by first | with_reducible assumption | omega | (rw [iI_t (by omega) (by omega)]; omega) | (have h7 : (0 : Int32).toInt = 0 := (by decide); omega)) (by decide) H.size) H) (cwV 1 hts gwsMX11_putDifferent_0 rfl rfl rfl (by decide +kernel) ⟨by first | decide +kernel | (dsimp only [headSpec] <;> omega), by first | decide +kernel | (dsimp only [headSpec] <;> omega)⟩) ⟨fun a U g mk q => by obtain ⟨q0, qh, q1, qP, qK, qD, qE⟩ := q; exact ⟨q0, qh, q1, qP, va_K.moved (u := U) (U := U.calling g mk a) (Vm.Alike.refl U.vm) qK, qD, qE.same rfl⟩, va_recv hK hP (ci := 11) (q0 := 0) rfl rfl, fun U hU9 hW => ⟨rfl, hU9, by rw [hU9], by rw [hU9]; exact hP, va_K.moved hW.alike hK, hD.weaken (fun _ _ _ _ => trivial), by rw [hU9]; exact (((hSS324 : (StrE qS324 2 (fun j => ([32, 120] : List Int32).getD j 0)) A s s.heap).kept hS.2.1).narrow (fun q h => hFc q h)).warm hW⟩⟩ rfl rfl hl.1 rfl (lv_room (Nat.le_of_ble_eq_true rfl)) dX11_putDifferent_39 ⟨by first | decide +kernel | (dsimp only [headSpec] <;> omega), by first | decide +kernel | (dsimp only [headSpec] <;> omega)⟩) hS (fun q _ h => hFc q h) hFc (fun u t9_ H locs ht hvm hw9 hB9 hz1 hk1 hS => ?_)
            revert u hw9 hB9
            refine fz_p4 ?_
            intro fX_sheet_48 dX_sheet_48 nX_sheet_48 iX_sheetLength_48 hw9 hB9
            try dsimp only at hw9 hB9
            revert hw9
            refine fz_a6 ?_
            intro b_fX_sheet_48 b_nX_sheet_48 b_iX_sheetLength_48 b_shl_48 f48_0 f48_1
            have hg1 := hB9.1.2.2.1
            rw [ht] at hg1
            have hg2 := hB9.1.2.2.2
            rw [ht] at hg2
            have hSz := hB9.2
            rw [ht] at hSz
            have hP : va_P (dC, dI) vwCl (WX hX aX kX hT hM fX_ready fX_sheet_48 dX_sheet_48 nX_sheet_48 iX_sheetLength_48 xX_reader xX_solver xX_prover xX_values xX_clauses xX_nets) H := fz_P ht hB9.1.1
            have hD := fz_sd hP (hB9.1.2.1.weaken (fun _ q _ h => hFc q.1 h)) rfl
            have hz9 : H.size ≤ s.heap.size + (nX_sheet_48 / 32 - (nX_sheet / 32)) := by (try dsimp only at hg1); omega
            have hn9 : nS s.heap.size H ≤ (2 * nX_sheet_48 - (2 * nX_sheet)) := by rw [hSz.n hS0]; (try dsimp only at hg2); omega
            refine W.tight (cells2 := (nX_sheet_48 / 32 - (nX_sheet / 32))) (slots2 := (2 * nX_sheet_48 - (2 * nX_sheet))) hz9 hn9 ?_
            clear hz9 hn9 hz0 hn0 hS0 hSz hg1 hg2
            refine lv_aload_n hx hb dX11_putDifferent_42 rfl (lv_at hl 2 rfl) ?_
            refine lv_iload_n hx hb dX11_putDifferent_43 rfl (lv_at hl 0 rfl) ?_
            refine W.known (fun hz0 hn0 => ?_)
            have hS0 := hS.1
            have hFc := allFree hD hS hA
            refine va_callv (va_runV (As := [.int l3_x11]) (rest := []) ⟨hx, hb, hml, hown, hts⟩ (Met.sV (m_X11_putNumber l dC dI hX aX kX hT hM fX_ready fX_sheet_48 dX_sheet_48 nX_sheet_48 iX_sheetLength_48 xX_reader xX_solver xX_prover xX_values xX_clauses xX_nets l3_x11 b_fX_sheet_48 (by first | exact b_nX_sheet_48 | with_reducible assumption | exact ⟨by omega, by omega⟩ | assumption) (b_iX_sheetLength_48) (by first | with_reducible assumption | omega | (rw [iI_t (by omega) (by omega)]; omega) | (have h7 : (0 : Int32).toInt = 0 := (by decide); omega)) H.size) H) (cwV 1 hts gwsMX11_putDifferent_1 rfl rfl rfl (by decide +kernel) ⟨by first | decide +kernel | (dsimp only [headSpec] <;> omega), by first | decide +kernel | (dsimp only [headSpec] <;> omega)⟩) ⟨fun a U g mk q => by obtain ⟨q0, qh, q1, qP, qK, qD⟩ := q; exact ⟨q0, qh, q1, qP, va_K.moved (u := U) (U := U.calling g mk a) (Vm.Alike.refl U.vm) qK, qD⟩, va_recv hK hP (ci := 11) (q0 := 0) rfl rfl, fun U hU9 hW => ⟨rfl, hU9, by rw [hU9], by rw [hU9]; exact hP, va_K.moved hW.alike hK, hD.weaken (fun _ _ _ _ => trivial)⟩⟩ rfl rfl hl.1 rfl (lv_room (Nat.le_of_ble_eq_true rfl)) dX11_putDifferent_44 ⟨by first | decide +kernel | (dsimp only [headSpec] <;> omega), by first | decide +kernel | (dsimp only [headSpec] <;> omega)⟩) hS (fun q _ h => hFc q h) hFc (fun u t9_ H locs ht hvm hw9 hB9 hz1 hk1 hS => ?_)
            revert u hw9 hB9
            refine fz_p4 ?_
            intro fX_sheet_49 dX_sheet_49 nX_sheet_49 iX_sheetLength_49 hw9 hB9
            try dsimp only at hw9 hB9
            revert hw9
            refine fz_a6 ?_
            intro b_fX_sheet_49 b_nX_sheet_49 b_iX_sheetLength_49 b_shl_49 f49_0 f49_1
            have hg1 := hB9.1.2.2.1
            rw [ht] at hg1
            have hg2 := hB9.1.2.2.2
            rw [ht] at hg2
            have hSz := hB9.2
            rw [ht] at hSz
            have hP : va_P (dC, dI) vwCl (WX hX aX kX hT hM fX_ready fX_sheet_49 dX_sheet_49 nX_sheet_49 iX_sheetLength_49 xX_reader xX_solver xX_prover xX_values xX_clauses xX_nets) H := fz_P ht hB9.1.1
            have hD := fz_sd hP (hB9.1.2.1.weaken (fun _ q _ h => hFc q.1 h)) rfl
            have hz9 : H.size ≤ s.heap.size + (nX_sheet_49 / 32 - (nX_sheet / 32)) := by (try dsimp only at hg1); omega
            have hn9 : nS s.heap.size H ≤ (2 * nX_sheet_49 - (2 * nX_sheet)) := by rw [hSz.n hS0]; (try dsimp only at hg2); omega
            refine W.tight (cells2 := (nX_sheet_49 / 32 - (nX_sheet / 32))) (slots2 := (2 * nX_sheet_49 - (2 * nX_sheet))) hz9 hn9 ?_
            clear hz9 hn9 hz0 hn0 hS0 hSz hg1 hg2
            refine lv_iconst (v := 0) hx hb dX11_putDifferent_47 (by decide) ?_
            refine lv_istore_n hx hb dX11_putDifferent_48 rfl hl (by decide) rfl (fun ls (hl : lv_has ls _ ([(2, .int 0), (3, .int l3_x11), (0, .ref (hX 0)), (1, .int p1)])) => ?_)
            have hl : lv_has _ _ ([(3, .int l3_x11), (2, .int 0), (0, .ref (hX 0)), (1, .int p1)]) := lv_sub hl [1, 0, 2, 3] rfl
            refine W.known (fun hza hna => ?_)
            refine W.widen (k := 1875) (n := 120000) (by omega) (by omega) ?_
            exact join10 _ _ _ _ ⟨fX_sheet_49, dX_sheet_49, nX_sheet_49, iX_sheetLength_49, 0, b_fX_sheet_49, (by first | exact b_nX_sheet_49 | with_reducible assumption | exact ⟨by omega, by omega⟩ | assumption), (b_iX_sheetLength_49), (show 0 ≤ (0 : Int32).toInt ∧ (0 : Int32).toInt ≤ 1 from by decide), (by first | with_reducible assumption | omega | (rw [iI_t (by omega) (by omega)]; omega) | (have h7 : (0 : Int32).toInt = 0 := (by decide); omega)), (show iX_sheetLength.toInt ≤ iX_sheetLength_49.toInt from by omega), (show nX_sheet ≤ nX_sheet_49 from by omega), ⟨by omega, by omega⟩, rfl, hP, hD, hS, hl⟩
      · intro H locs ls stk
        refine fz_e5 ?_
        intro fX_sheet_j10 dX_sheet_j10 nX_sheet_j10 iX_sheetLength_j10 l2_j10
        refine fz_a13 ?_
        intro b_fX_sheet_j10 b_nX_sheet_j10 b_iX_sheetLength_j10 b_l2_j10 b_shl_j10 hjx hgm0_j10 hzn9_7 hst9_8 hP hD hS hl
        have hzj := hzn9_7.1
        have hnj := hzn9_7.2
        clear hzn9_7
        subst hst9_8
        refine W.tight (cells2 := (nX_sheet_j10 / 32 - (nX_sheet / 32))) (slots2 := (2 * nX_sheet_j10 - (2 * nX_sheet))) (tg1 hzj hS.1) (tg2 hnj) ?_
        refine lv_iinc (v := (iI (l3_x11.toInt + 1))) hx hb dX11_putDifferent_49 hl (k := 0) rfl (iI_add2 (iI_of _) (by decide : (1 : Int32) = iI 1)) (by decide) rfl (fun ls (hl : lv_has ls _ ([(3, .int (iI (l3_x11.toInt + 1))), (2, .int l2_j10), (0, .ref (hX 0)), (1, .int p1)])) => ?_)
        refine lv_goto (tgt := 11) hx hb dX11_putDifferent_52 (by decide) ?_
        have hl : lv_has _ _ ([(3, .int (iI (l3_x11.toInt + 1))), (2, .int l2_j10), (0, .ref (hX 0)), (1, .int p1)]) := lv_sub hl [0, 1, 2, 3] rfl
        exact ihx11 fX_sheet_j10 dX_sheet_j10 nX_sheet_j10 iX_sheetLength_j10 (iI (l3_x11.toInt + 1)) l2_j10 _ _ _ b_fX_sheet_j10 (by first | exact b_nX_sheet_j10 | with_reducible assumption | exact ⟨by omega, by omega⟩ | assumption) (b_iX_sheetLength_j10) (iI_rng (Int.le_trans (by decide) (Int.add_le_add (b_l3_x11.1) (Int.le_refl _))) (by omega) (by decide) (by decide)) (b_l2_j10) (by first | with_reducible assumption | omega | (rw [iI_t (by omega) (by omega)]; omega) | (have h7 : (0 : Int32).toInt = 0 := (by decide); omega)) (show iX_sheetLength.toInt ≤ iX_sheetLength_j10.toInt from by omega) (show nX_sheet ≤ nX_sheet_j10 from by omega) (by have e9 : ((iI (l3_x11.toInt + 1))).toInt = (l3_x11.toInt + 1) := (iI_t (Int.le_trans (by decide) (Int.add_le_add (b_l3_x11.1) (Int.le_refl _))) (Int.le_trans (Int.add_le_add (b_l3_x11.2) (Int.le_refl _)) (by decide))); omega) hP hD hS hl
theorem dX11_putGoal_0 : decode cX11_putGoal 0 = .ok (.aload_n 0, 1) := dk_42 (by decide +kernel)
theorem dX11_putGoal_1 : decode cX11_putGoal 1 = .ok (.aload_n 0, 1) := dk_42 (by decide +kernel)
theorem dX11_putGoal_2 : decode cX11_putGoal 2 = .ok (.getfield 23, 3) := dk_180 (by decide +kernel)
theorem dX11_putGoal_5 : decode cX11_putGoal 5 = .ok (.getfield 126, 3) := dk_180 (by decide +kernel)
theorem dX11_putGoal_8 : decode cX11_putGoal 8 = .ok (.iload_n 1, 1) := dk_27 (by decide +kernel)
theorem dX11_putGoal_9 : decode cX11_putGoal 9 = .ok (.baload, 1) := dk_51 (by decide +kernel)
theorem dX11_putGoal_10 : decode cX11_putGoal 10 = .ok (.ifCond .eq 9, 3) := dk_153 (by decide +kernel)
theorem dX11_putGoal_13 : decode cX11_putGoal 13 = .ok (.ldc_w 329, 3) := dk_19 (by decide +kernel)
theorem dX11_putGoal_16 : decode cX11_putGoal 16 = .ok (.goto 6, 3) := dk_167 (by decide +kernel)
theorem dX11_putGoal_19 : decode cX11_putGoal 19 = .ok (.ldc_w 331, 3) := dk_19 (by decide +kernel)
theorem dX11_putGoal_22 : decode cX11_putGoal 22 = .ok (.invokevirtual 279, 3) := dk_182 (by decide +kernel)
theorem dX11_putGoal_25 : decode cX11_putGoal 25 = .ok (.iload_n 1, 1) := dk_27 (by decide +kernel)
theorem dX11_putGoal_26 : decode cX11_putGoal 26 = .ok (.bipush 9, 2) := dk_16 (by decide +kernel)
theorem dX11_putGoal_28 : decode cX11_putGoal 28 = .ok (.imul, 1) := dk_104 (by decide +kernel)
theorem dX11_putGoal_29 : decode cX11_putGoal 29 = .ok (.istore_n 2, 1) := dk_61 (by decide +kernel)
theorem dX11_putGoal_30 : decode cX11_putGoal 30 = .ok (.iconst 1, 1) := dk_4 (by decide +kernel)
theorem dX11_putGoal_31 : decode cX11_putGoal 31 = .ok (.istore_n 3, 1) := dk_62 (by decide +kernel)
theorem dX11_putGoal_32 : decode cX11_putGoal 32 = .ok (.iconst 0, 1) := dk_3 (by decide +kernel)
theorem dX11_putGoal_33 : decode cX11_putGoal 33 = .ok (.istore 4, 2) := dk_54 (by decide +kernel)
theorem dX11_putGoal_35 : decode cX11_putGoal 35 = .ok (.iload 4, 2) := dk_21 (by decide +kernel)
theorem dX11_putGoal_37 : decode cX11_putGoal 37 = .ok (.aload_n 0, 1) := dk_42 (by decide +kernel)
theorem dX11_putGoal_38 : decode cX11_putGoal 38 = .ok (.getfield 23, 3) := dk_180 (by decide +kernel)
theorem dX11_putGoal_41 : decode cX11_putGoal 41 = .ok (.getfield 84, 3) := dk_180 (by decide +kernel)
theorem dX11_putGoal_44 : decode cX11_putGoal 44 = .ok (.if_icmp .ge 55, 3) := dk_162 (by decide +kernel)
theorem dX11_putGoal_47 : decode cX11_putGoal 47 = .ok (.aload_n 0, 1) := dk_42 (by decide +kernel)
theorem dX11_putGoal_48 : decode cX11_putGoal 48 = .ok (.getfield 23, 3) := dk_180 (by decide +kernel)
theorem dX11_putGoal_51 : decode cX11_putGoal 51 = .ok (.getfield 132, 3) := dk_180 (by decide +kernel)
theorem dX11_putGoal_54 : decode cX11_putGoal 54 = .ok (.iload_n 2, 1) := dk_28 (by decide +kernel)
theorem dX11_putGoal_55 : decode cX11_putGoal 55 = .ok (.iload 4, 2) := dk_21 (by decide +kernel)
theorem dX11_putGoal_57 : decode cX11_putGoal 57 = .ok (.iadd, 1) := dk_96 (by decide +kernel)
theorem dX11_putGoal_58 : decode cX11_putGoal 58 = .ok (.iconst 1, 1) := dk_4 (by decide +kernel)
theorem dX11_putGoal_59 : decode cX11_putGoal 59 = .ok (.iadd, 1) := dk_96 (by decide +kernel)
theorem dX11_putGoal_60 : decode cX11_putGoal 60 = .ok (.iaload, 1) := dk_46 (by decide +kernel)
theorem dX11_putGoal_61 : decode cX11_putGoal 61 = .ok (.istore 5, 2) := dk_54 (by decide +kernel)
theorem dX11_putGoal_63 : decode cX11_putGoal 63 = .ok (.iload 5, 2) := dk_21 (by decide +kernel)
theorem dX11_putGoal_65 : decode cX11_putGoal 65 = .ok (.ifCond .eq 28, 3) := dk_153 (by decide +kernel)
theorem dX11_putGoal_68 : decode cX11_putGoal 68 = .ok (.aload_n 0, 1) := dk_42 (by decide +kernel)
theorem dX11_putGoal_69 : decode cX11_putGoal 69 = .ok (.iload 5, 2) := dk_21 (by decide +kernel)
theorem dX11_putGoal_71 : decode cX11_putGoal 71 = .ok (.aload_n 0, 1) := dk_42 (by decide +kernel)
theorem dX11_putGoal_72 : decode cX11_putGoal 72 = .ok (.getfield 23, 3) := dk_180 (by decide +kernel)
theorem dX11_putGoal_75 : decode cX11_putGoal 75 = .ok (.getfield 129, 3) := dk_180 (by decide +kernel)
theorem dX11_putGoal_78 : decode cX11_putGoal 78 = .ok (.iload_n 2, 1) := dk_28 (by decide +kernel)
theorem dX11_putGoal_79 : decode cX11_putGoal 79 = .ok (.iload 4, 2) := dk_21 (by decide +kernel)
theorem dX11_putGoal_81 : decode cX11_putGoal 81 = .ok (.iadd, 1) := dk_96 (by decide +kernel)
theorem dX11_putGoal_82 : decode cX11_putGoal 82 = .ok (.iconst 1, 1) := dk_4 (by decide +kernel)
theorem dX11_putGoal_83 : decode cX11_putGoal 83 = .ok (.iadd, 1) := dk_96 (by decide +kernel)
theorem dX11_putGoal_84 : decode cX11_putGoal 84 = .ok (.iaload, 1) := dk_46 (by decide +kernel)
theorem dX11_putGoal_85 : decode cX11_putGoal 85 = .ok (.iload 4, 2) := dk_21 (by decide +kernel)
theorem dX11_putGoal_87 : decode cX11_putGoal 87 = .ok (.iload_n 3, 1) := dk_29 (by decide +kernel)
theorem dX11_putGoal_88 : decode cX11_putGoal 88 = .ok (.invokevirtual 303, 3) := dk_182 (by decide +kernel)
theorem dX11_putGoal_91 : decode cX11_putGoal 91 = .ok (.iconst 0, 1) := dk_3 (by decide +kernel)
theorem dX11_putGoal_92 : decode cX11_putGoal 92 = .ok (.istore_n 3, 1) := dk_62 (by decide +kernel)
theorem dX11_putGoal_93 : decode cX11_putGoal 93 = .ok (.iinc 4 1, 3) := dk_132 (by decide +kernel)
theorem dX11_putGoal_96 : decode cX11_putGoal 96 = .ok (.goto (-61), 3) := dk_167 (by decide +kernel)
theorem dX11_putGoal_99 : decode cX11_putGoal 99 = .ok (.aload_n 0, 1) := dk_42 (by decide +kernel)
theorem dX11_putGoal_100 : decode cX11_putGoal 100 = .ok (.getfield 23, 3) := dk_180 (by decide +kernel)
theorem dX11_putGoal_103 : decode cX11_putGoal 103 = .ok (.getfield 132, 3) := dk_180 (by decide +kernel)
theorem dX11_putGoal_106 : decode cX11_putGoal 106 = .ok (.iload_n 2, 1) := dk_28 (by decide +kernel)
theorem dX11_putGoal_107 : decode cX11_putGoal 107 = .ok (.iaload, 1) := dk_46 (by decide +kernel)
theorem dX11_putGoal_108 : decode cX11_putGoal 108 = .ok (.istore 4, 2) := dk_54 (by decide +kernel)
theorem dX11_putGoal_110 : decode cX11_putGoal 110 = .ok (.iload_n 3, 1) := dk_29 (by decide +kernel)
theorem dX11_putGoal_111 : decode cX11_putGoal 111 = .ok (.ifCond .eq 27, 3) := dk_153 (by decide +kernel)
theorem dX11_putGoal_114 : decode cX11_putGoal 114 = .ok (.aload_n 0, 1) := dk_42 (by decide +kernel)
theorem dX11_putGoal_115 : decode cX11_putGoal 115 = .ok (.bipush 32, 2) := dk_16 (by decide +kernel)
theorem dX11_putGoal_117 : decode cX11_putGoal 117 = .ok (.invokevirtual 242, 3) := dk_182 (by decide +kernel)
theorem dX11_putGoal_120 : decode cX11_putGoal 120 = .ok (.aload_n 0, 1) := dk_42 (by decide +kernel)
theorem dX11_putGoal_121 : decode cX11_putGoal 121 = .ok (.iload 4, 2) := dk_21 (by decide +kernel)
theorem dX11_putGoal_123 : decode cX11_putGoal 123 = .ok (.aload_n 0, 1) := dk_42 (by decide +kernel)
theorem dX11_putGoal_124 : decode cX11_putGoal 124 = .ok (.getfield 23, 3) := dk_180 (by decide +kernel)
theorem dX11_putGoal_127 : decode cX11_putGoal 127 = .ok (.getfield 129, 3) := dk_180 (by decide +kernel)
theorem dX11_putGoal_130 : decode cX11_putGoal 130 = .ok (.iload_n 2, 1) := dk_28 (by decide +kernel)
theorem dX11_putGoal_131 : decode cX11_putGoal 131 = .ok (.iaload, 1) := dk_46 (by decide +kernel)
theorem dX11_putGoal_132 : decode cX11_putGoal 132 = .ok (.invokevirtual 319, 3) := dk_182 (by decide +kernel)
theorem dX11_putGoal_135 : decode cX11_putGoal 135 = .ok (.goto 52, 3) := dk_167 (by decide +kernel)
theorem dX11_putGoal_138 : decode cX11_putGoal 138 = .ok (.iload 4, 2) := dk_21 (by decide +kernel)
theorem dX11_putGoal_140 : decode cX11_putGoal 140 = .ok (.ifCond .eq 47, 3) := dk_153 (by decide +kernel)
theorem dX11_putGoal_143 : decode cX11_putGoal 143 = .ok (.aload_n 0, 1) := dk_42 (by decide +kernel)
theorem dX11_putGoal_144 : decode cX11_putGoal 144 = .ok (.iload 4, 2) := dk_21 (by decide +kernel)
theorem dX11_putGoal_146 : decode cX11_putGoal 146 = .ok (.ifCond .ge 9, 3) := dk_156 (by decide +kernel)
theorem dX11_putGoal_149 : decode cX11_putGoal 149 = .ok (.ldc_w 333, 3) := dk_19 (by decide +kernel)
theorem dX11_putGoal_152 : decode cX11_putGoal 152 = .ok (.goto 6, 3) := dk_167 (by decide +kernel)
theorem dX11_putGoal_155 : decode cX11_putGoal 155 = .ok (.ldc_w 335, 3) := dk_19 (by decide +kernel)
theorem dX11_putGoal_158 : decode cX11_putGoal 158 = .ok (.invokevirtual 279, 3) := dk_182 (by decide +kernel)
theorem dX11_putGoal_161 : decode cX11_putGoal 161 = .ok (.aload_n 0, 1) := dk_42 (by decide +kernel)
theorem dX11_putGoal_162 : decode cX11_putGoal 162 = .ok (.iload 4, 2) := dk_21 (by decide +kernel)
theorem dX11_putGoal_164 : decode cX11_putGoal 164 = .ok (.ifCond .ge 9, 3) := dk_156 (by decide +kernel)
theorem dX11_putGoal_167 : decode cX11_putGoal 167 = .ok (.iload 4, 2) := dk_21 (by decide +kernel)
theorem dX11_putGoal_169 : decode cX11_putGoal 169 = .ok (.ineg, 1) := dk_116 (by decide +kernel)
theorem dX11_putGoal_170 : decode cX11_putGoal 170 = .ok (.goto 5, 3) := dk_167 (by decide +kernel)
theorem dX11_putGoal_173 : decode cX11_putGoal 173 = .ok (.iload 4, 2) := dk_21 (by decide +kernel)
theorem dX11_putGoal_175 : decode cX11_putGoal 175 = .ok (.aload_n 0, 1) := dk_42 (by decide +kernel)
theorem dX11_putGoal_176 : decode cX11_putGoal 176 = .ok (.getfield 23, 3) := dk_180 (by decide +kernel)
theorem dX11_putGoal_179 : decode cX11_putGoal 179 = .ok (.getfield 129, 3) := dk_180 (by decide +kernel)
theorem dX11_putGoal_182 : decode cX11_putGoal 182 = .ok (.iload_n 2, 1) := dk_28 (by decide +kernel)
theorem dX11_putGoal_183 : decode cX11_putGoal 183 = .ok (.iaload, 1) := dk_46 (by decide +kernel)
theorem dX11_putGoal_184 : decode cX11_putGoal 184 = .ok (.invokevirtual 319, 3) := dk_182 (by decide +kernel)
theorem dX11_putGoal_187 : decode cX11_putGoal 187 = .ok (.aload_n 0, 1) := dk_42 (by decide +kernel)
theorem dX11_putGoal_188 : decode cX11_putGoal 188 = .ok (.ldc_w 292, 3) := dk_19 (by decide +kernel)
theorem dX11_putGoal_191 : decode cX11_putGoal 191 = .ok (.invokevirtual 279, 3) := dk_182 (by decide +kernel)
theorem dX11_putGoal_194 : decode cX11_putGoal 194 = .ok (.return_, 1) := dk_177 (by decide +kernel)
def wsMX11_putGoal : List Cond := .code yX11_putGoal cX11_putGoal 6 none :: ([.fieldLink RX11 23 "OptimaWorks" "model" "LOptimaWorks$Model;", .fieldLink RX11 126 "OptimaWorks$Model" "goalMax" "[Z", .fieldLink RX11 84 "OptimaWorks$Model" "variables" "I", .fieldLink RX11 132 "OptimaWorks$Model" "goalOver" "[I", .fieldLink RX11 129 "OptimaWorks$Model" "goalUnder" "[I"] ++ wsX10 ++ wsX110 ++ (wsV RX11 279 RX11 yX11_putText wsMX11_putText) ++ (wsV RX11 303 RX11 yX11_putTimes wsMX11_putTimes) ++ (wsV RX11 242 RX11 yX11_put wsMX11_put) ++ (wsV RX11 319 RX11 yX11_putRatio wsMX11_putRatio))
theorem iwsMX11_putGoal_in1 : ∀ w ∈ wsX10, w ∈ wsMX11_putGoal := fun _ h => List.mem_cons_of_mem _ (List.mem_append_left _ (List.mem_append_left _ (List.mem_append_left _ (List.mem_append_left _ (List.mem_append_left _ (List.mem_append_right _ h))))))
theorem iwsMX11_putGoal_in11 : ∀ w ∈ wsX110, w ∈ wsMX11_putGoal := fun _ h => List.mem_cons_of_mem _ (List.mem_append_left _ (List.mem_append_left _ (List.mem_append_left _ (List.mem_append_left _ (List.mem_append_right _ h)))))
theorem gwsMX11_putGoal_0 : GoodIn wsMX11_putGoal (wsV RX11 279 RX11 yX11_putText wsMX11_putText) := goodIn_sub (fun _ h => List.mem_cons_of_mem _ (List.mem_append_left _ (List.mem_append_left _ (List.mem_append_left _ (List.mem_append_right _ h))))) (gdV (by decide +kernel) gdwsMX11_putText)
theorem gwsMX11_putGoal_1 : GoodIn wsMX11_putGoal (wsV RX11 303 RX11 yX11_putTimes wsMX11_putTimes) := goodIn_sub (fun _ h => List.mem_cons_of_mem _ (List.mem_append_left _ (List.mem_append_left _ (List.mem_append_right _ h)))) (gdV (by decide +kernel) gdwsMX11_putTimes)
theorem gwsMX11_putGoal_2 : GoodIn wsMX11_putGoal (wsV RX11 242 RX11 yX11_put wsMX11_put) := goodIn_sub (fun _ h => List.mem_cons_of_mem _ (List.mem_append_left _ (List.mem_append_right _ h))) (gdV (by decide +kernel) gdwsMX11_put)
theorem gwsMX11_putGoal_3 : GoodIn wsMX11_putGoal (wsV RX11 319 RX11 yX11_putRatio wsMX11_putRatio) := goodIn_sub (fun _ h => List.mem_cons_of_mem _ (List.mem_append_right _ h)) (gdV (by decide +kernel) gdwsMX11_putRatio)
theorem gdwsMX11_putGoal : wsMX11_putGoal.all goodWord = true := gdC rfl (gdA (gdA (gdA (gdA (gdA (gdA (by decide +kernel : ([.fieldLink RX11 23 "OptimaWorks" "model" "LOptimaWorks$Model;", .fieldLink RX11 126 "OptimaWorks$Model" "goalMax" "[Z", .fieldLink RX11 84 "OptimaWorks$Model" "variables" "I", .fieldLink RX11 132 "OptimaWorks$Model" "goalOver" "[I", .fieldLink RX11 129 "OptimaWorks$Model" "goalUnder" "[I"] : List Cond).all goodWord = true) gdwsX10) gdwsX110) (gdV (by decide +kernel) gdwsMX11_putText)) (gdV (by decide +kernel) gdwsMX11_putTimes)) (gdV (by decide +kernel) gdwsMX11_put)) (gdV (by decide +kernel) gdwsMX11_putRatio))
theorem hm_m_X11_putGoal_0 : (.fieldLink RX11 23 "OptimaWorks" "model" "LOptimaWorks$Model;" : Cond) ∈ wsMX11_putGoal := by decide +kernel
theorem hm_m_X11_putGoal_1 : (.fieldLink RX11 84 "OptimaWorks$Model" "variables" "I" : Cond) ∈ wsMX11_putGoal := by decide +kernel
theorem hm_m_X11_putGoal_2 : (.fieldLink RX11 132 "OptimaWorks$Model" "goalOver" "[I" : Cond) ∈ wsMX11_putGoal := by decide +kernel
theorem hm_m_X11_putGoal_3 : (.fieldLink RX11 129 "OptimaWorks$Model" "goalUnder" "[I" : Cond) ∈ wsMX11_putGoal := by decide +kernel
set_option maxHeartbeats 4000000 in
set_option maxRecDepth 100000 in
/-- a goal more -/
theorem m_X11_putGoal (l : Launch) (hst : l.stackTraces = false) (dC : Nat → ClassId) (dI : Nat → Nat → Nat) (hX : Nat → Nat) (aX : Nat → Nat) (kX : Nat → ClassId) (hT : Nat → Nat) (hM : Nat → Nat) (fX_ready : Nat → Int32) (fX_sheet : Nat → Int32) (dX_sheet : Nat) (nX_sheet : Nat) (iX_sheetLength : Int32) (xX_reader : Value) (xX_solver : Value) (xX_prover : Value) (xX_values : Value) (xX_clauses : Value) (xX_nets : Value) (aM : Nat → Nat) (kM : Nat → ClassId) (iM_stands : Int32) (iM_variables : Int32) (iM_rows : Int32) (iM_goals : Int32) (iM_differents : Int32) (iM_cases : Int32) (fM_from : Nat → Int32) (fM_to : Nat → Int32) (fM_whole : Nat → Int32) (fM_ways : Nat → Int32) (iM_plainRows : Int32) (fM_plainRow : Nat → Int32) (fM_kept : Nat → Int32) (fM_goalOver : Nat → Int32) (fM_goalUnder : Nat → Int32) (fM_goalMax : Nat → Int32) (fM_different : Nat → Int32) (p1 : Int32) (b_fX_sheet : ∀ q : Nat, (-128) ≤ (fX_sheet q).toInt ∧ (fX_sheet q).toInt ≤ 127) (b_nX_sheet : 64 ≤ nX_sheet ∧ nX_sheet ≤ 60000) (b_iX_sheetLength : 0 ≤ iX_sheetLength.toInt ∧ iX_sheetLength.toInt ≤ 30000) (b_shl : iX_sheetLength.toInt ≤ ((nX_sheet : Nat) : Int)) (b_iM_stands : 0 ≤ iM_stands.toInt ∧ iM_stands.toInt ≤ 1) (b_iM_variables : 0 ≤ iM_variables.toInt ∧ iM_variables.toInt ≤ 8) (b_iM_rows : 0 ≤ iM_rows.toInt ∧ iM_rows.toInt ≤ 12) (b_iM_goals : 0 ≤ iM_goals.toInt ∧ iM_goals.toInt ≤ 3) (b_iM_differents : 0 ≤ iM_differents.toInt ∧ iM_differents.toInt ≤ 8) (b_iM_cases : 0 ≤ iM_cases.toInt ∧ iM_cases.toInt ≤ 200000) (b_fM_ways : ∀ q : Nat, 0 ≤ (fM_ways q).toInt ∧ (fM_ways q).toInt ≤ 3) (b_iM_plainRows : 0 ≤ iM_plainRows.toInt ∧ iM_plainRows.toInt ≤ 12) (b_fM_plainRow : ∀ q : Nat, 0 ≤ (fM_plainRow q).toInt ∧ (fM_plainRow q).toInt ≤ 11) (b_pr : iM_plainRows.toInt ≤ iM_rows.toInt) (b_p1 : 0 ≤ p1.toInt ∧ p1.toInt ≤ 2) (sz : Nat) : Met l yX11_putGoal wsMX11_putGoal ({ frames := 6, cells := 9376, slots := 660000, locals := 132 }) (va_Pc [.ref (hX 0), .int p1] (fun U => U.heap.size = sz ∧ va_P (dC, dI) vwCl (WX hX aX kX hT hM fX_ready fX_sheet dX_sheet nX_sheet iX_sheetLength xX_reader xX_solver xX_prover xX_values xX_clauses xX_nets ++ (WM hM aM kM iM_stands iM_variables iM_rows iM_goals iM_differents iM_cases fM_from fM_to fM_whole fM_ways iM_plainRows fM_plainRow fM_kept fM_goalOver fM_goalUnder fM_goalMax fM_different)) U.heap ∧ va_K (dC, dI) vwCl (tX kX ++ (tM kM)) U ∧ va_D (fun _ => True) (WX hX aX kX hT hM fX_ready fX_sheet dX_sheet nX_sheet iX_sheetLength xX_reader xX_solver xX_prover xX_values xX_clauses xX_nets ++ (WM hM aM kM iM_stands iM_variables iM_rows iM_goals iM_differents iM_cases fM_from fM_to fM_whole fM_ways iM_plainRows fM_plainRow fM_kept fM_goalOver fM_goalUnder fM_goalMax fM_different)) ∧ CE (va_A (WX hX aX kX hT hM fX_ready fX_sheet dX_sheet nX_sheet iX_sheetLength xX_reader xX_solver xX_prover xX_values xX_clauses xX_nets ++ (WM hM aM kM iM_stands iM_variables iM_rows iM_goals iM_differents iM_cases fM_from fM_to fM_whole fM_ways iM_plainRows fM_plainRow fM_kept fM_goalOver fM_goalUnder fM_goalMax fM_different)) sz) U U.heap)) (va_Qv (fun (u : (Nat → Int32) × (Nat) × (Nat) × (Int32)) => (∀ q : Nat, (-128) ≤ ((u.1) q).toInt ∧ ((u.1) q).toInt ≤ 127) ∧ (64 ≤ (u.2.2.1) ∧ (u.2.2.1) ≤ 60000) ∧ (0 ≤ (u.2.2.2).toInt ∧ (u.2.2.2).toInt ≤ 30000) ∧ ((u.2.2.2).toInt ≤ (((u.2.2.1) : Nat) : Int)) ∧ (nX_sheet ≤ (u.2.2.1)) ∧ (iX_sheetLength.toInt ≤ (u.2.2.2).toInt)) (fun (u : (Nat → Int32) × (Nat) × (Nat) × (Int32)) t => va_P (dC, dI) vwCl (WX hX aX kX hT hM fX_ready (u.1) (u.2.1) (u.2.2.1) (u.2.2.2) xX_reader xX_solver xX_prover xX_values xX_clauses xX_nets ++ (WM hM aM kM iM_stands iM_variables iM_rows iM_goals iM_differents iM_cases fM_from fM_to fM_whole fM_ways iM_plainRows fM_plainRow fM_kept fM_goalOver fM_goalUnder fM_goalMax fM_different)) t.heap ∧ va_D (va_A (WX hX aX kX hT hM fX_ready fX_sheet dX_sheet nX_sheet iX_sheetLength xX_reader xX_solver xX_prover xX_values xX_clauses xX_nets ++ (WM hM aM kM iM_stands iM_variables iM_rows iM_goals iM_differents iM_cases fM_from fM_to fM_whole fM_ways iM_plainRows fM_plainRow fM_kept fM_goalOver fM_goalUnder fM_goalMax fM_different)) sz) (WX hX aX kX hT hM fX_ready (u.1) (u.2.1) (u.2.2.1) (u.2.2.2) xX_reader xX_solver xX_prover xX_values xX_clauses xX_nets ++ (WM hM aM kM iM_stands iM_variables iM_rows iM_goals iM_differents iM_cases fM_from fM_to fM_whole fM_ways iM_plainRows fM_plainRow fM_kept fM_goalOver fM_goalUnder fM_goalMax fM_different)) ∧ t.heap.size + (nX_sheet / 32) ≤ sz + ((u.2.2.1) / 32) ∧ nS sz t.heap + (2 * nX_sheet) ≤ (2 * (u.2.2.1))) (va_A (WX hX aX kX hT hM fX_ready fX_sheet dX_sheet nX_sheet iX_sheetLength xX_reader xX_solver xX_prover xX_values xX_clauses xX_nets ++ (WM hM aM kM iM_stands iM_variables iM_rows iM_goals iM_differents iM_cases fM_from fM_to fM_whole fM_ways iM_plainRows fM_plainRow fM_kept fM_goalOver fM_goalUnder fM_goalMax fM_different)) sz)) 9376 660000 (va_A (WX hX aX kX hT hM fX_ready fX_sheet dX_sheet nX_sheet iX_sheetLength xX_reader xX_solver xX_prover xX_values xX_clauses xX_nets ++ (WM hM aM kM iM_stands iM_variables iM_rows iM_goals iM_differents iM_cases fM_from fM_to fM_whole fM_ways iM_plainRows fM_plainRow fM_kept fM_goalOver fM_goalUnder fM_goalMax fM_different)) sz) := by
  refine Met.ofW (cc := cX11_putGoal) (maxL := 6) (ret := none) (by decide) rfl ?_
  intro p e s m args below meth c s₁ B hml hv
  obtain ⟨rfl, hsz, hP, hK, hD0, hE⟩ := hv
  have hx := B.exec
  have hb := B.bytes
  have hr := B.returns
  have hts := atoms_spec (ws := wsMX11_putGoal) B.pre
  have hown : s.vm.findClass RX11 = some m.cls := findClass_of_methodNamed B.named
  have hlocks := B.notSynchronized
  subst hsz
  have hD := hD0.self (sz := s.heap.size)
  generalize hAe : va_A (WX hX aX kX hT hM fX_ready fX_sheet dX_sheet nX_sheet iX_sheetLength xX_reader xX_solver xX_prover xX_values xX_clauses xX_nets ++ (WM hM aM kM iM_stands iM_variables iM_rows iM_goals iM_differents iM_cases fM_from fM_to fM_whole fM_ways iM_plainRows fM_plainRow fM_kept fM_goalOver fM_goalUnder fM_goalMax fM_different)) s.heap.size = A at hD hE ⊢
  have hA : ∀ q : Nat, s.heap.size ≤ q → A q := fun q h => by rw [← hAe]; exact Or.inr h
  have hS : va_S A s.heap s.heap [] := va_S.rf
  have hl := lv_entry ([.ref (hX 0), .int p1]) (n := 6) (Nat.le_of_ble_eq_true rfl)
  rw [lg_entry_eq]
  generalize (lg_sl ([.ref (hX 0), .int p1]) ++ List.replicate (6 - (lg_sl ([.ref (hX 0), .int p1])).length) Slot.unset).toArray = ls at hl ⊢
  have hl : lv_has ls 6 [(0, .ref (hX 0)), (1, .int p1)] := hl
  refine W.widen (k := (nX_sheet / 32 - (nX_sheet / 32))) (n := (2 * nX_sheet - (2 * nX_sheet))) (Nat.zero_le _) (Nat.zero_le _) ?_
  refine lv_aload_n hx hb dX11_putGoal_0 rfl (lv_at hl 0 rfl) ?_
  refine lv_aload_n hx hb dX11_putGoal_1 rfl (lv_at hl 0 rfl) ?_
  refine va_get (D := (dC, dI)) (ci := 11) (v := .ref (hM 0)) (C := RX11) (T := TX11) (N := 11) hx hb hts iwsMX11_putGoal_in11 hown hK hP 0 rfl rfl 2 (by decide) (hts _ hm_m_X11_putGoal_0) (fun _ h9 => h9) rfl dX11_putGoal_2 ?_
  refine va_get (D := (dC, dI)) (ci := 1) (v := .ref (aM 8)) (C := RX1) (T := TX1) (N := 17) hx hb hts iwsMX11_putGoal_in1 hown hK hP 3 rfl rfl 15 (by decide) (hts (.fieldLink RX11 126 "OptimaWorks$Model" "goalMax" "[Z") (by decide +kernel)) (fun _ h9 => h9) rfl dX11_putGoal_5 ?_
  refine lv_iload_n hx hb dX11_putGoal_8 rfl (lv_at hl 1 rfl) ?_
  refine va_zald (cA := kM 8) (n := 3) (f := fM_goalMax) hx hb hK hP 12 10 rfl rfl (vp_in_iff.mpr ⟨b_p1.1, (Int.lt_of_le_of_lt (b_p1.2) (by decide))⟩) dX11_putGoal_9 ?_
  refine lv_topi (fun v1 hv1 => ?_)
  clear hv1
  refine lv_if_eq (tgt := 19) hx hb dX11_putGoal_10 (by decide) (fun c_10 => ?_) (fun c_10 => ?_)
  · have t_10 : v1.toInt = 0 := toI_eq c_10 rfl (by decide : (0 : Int32).toInt = 0)
    obtain ⟨qS331, hR331, hSS331⟩ := hE.2.2.2 19 _ rfl
    refine lv_ldcwS hx hb hown hR331 dX11_putGoal_19 ?_
    refine W.known (fun hz0 hn0 => ?_)
    have hS0 := hS.1
    have p9 := cj_2_0 (WX hX aX kX hT hM fX_ready fX_sheet dX_sheet nX_sheet iX_sheetLength xX_reader xX_solver xX_prover xX_values xX_clauses xX_nets) (WM hM aM kM iM_stands iM_variables iM_rows iM_goals iM_differents iM_cases fM_from fM_to fM_whole fM_ways iM_plainRows fM_plainRow fM_kept fM_goalOver fM_goalUnder fM_goalMax fM_different)
    have hPc := hP.mem (fun q h => p9.mem_iff.mpr (List.mem_append_left _ h))
    have hDc := (hD.perm p9).left
    have hKc : va_K (dC, dI) vwCl (tX kX) _ := hK.sub [0, 1] rfl
    have hFc := freeG p9 hD hS hA
    refine va_callv (va_runV (As := [.ref qS331]) (rest := []) ⟨hx, hb, hml, hown, hts⟩ (Met.sV (m_X11_putText l dC dI hX aX kX hT hM fX_ready fX_sheet dX_sheet nX_sheet iX_sheetLength xX_reader xX_solver xX_prover xX_values xX_clauses xX_nets qS331 3 (fun j => ([109, 105, 110] : List Int32).getD j 0) b_fX_sheet (by first | exact b_nX_sheet | with_reducible assumption | exact ⟨by omega, by omega⟩ | assumption) (b_iX_sheetLength) (by first | with_reducible assumption | omega | (rw [iI_t (by omega) (by omega)]; omega) | (have h7 : (0 : Int32).toInt = 0 := (by decide); omega)) (by decide) s.heap.size) s.heap) (cwV 1 hts gwsMX11_putGoal_0 rfl rfl rfl (by decide +kernel) ⟨by first | decide +kernel | (dsimp only [headSpec] <;> omega), by first | decide +kernel | (dsimp only [headSpec] <;> omega)⟩) ⟨fun a U g mk q => by obtain ⟨q0, qh, q1, qP, qK, qD, qE⟩ := q; exact ⟨q0, qh, q1, qP, va_K.moved (u := U) (U := U.calling g mk a) (Vm.Alike.refl U.vm) qK, qD, qE.same rfl⟩, va_recv hK hP (ci := 11) (q0 := 0) rfl rfl, fun U hU9 hW => ⟨rfl, hU9, by rw [hU9], by rw [hU9]; exact hPc, va_K.moved hW.alike hKc, hDc.weaken (fun _ _ _ _ => trivial), by rw [hU9]; exact (((hSS331 : (StrE qS331 3 (fun j => ([109, 105, 110] : List Int32).getD j 0)) A s s.heap).kept hS.2.1).narrow (fun q h => hFc q h)).warm hW⟩⟩ rfl rfl hl.1 rfl (lv_room (Nat.le_of_ble_eq_true rfl)) dX11_putGoal_22 ⟨by first | decide +kernel | (dsimp only [headSpec] <;> omega), by first | decide +kernel | (dsimp only [headSpec] <;> omega)⟩) hS (fun q _ h => hFc q h) hFc (fun u t9_ H locs ht hvm hw9 hB9 hz1 hk1 hS => ?_)
    revert u hw9 hB9
    refine fz_p4 ?_
    intro fX_sheet_2 dX_sheet_2 nX_sheet_2 iX_sheetLength_2 hw9 hB9
    try dsimp only at hw9 hB9
    revert hw9
    refine fz_a6 ?_
    intro b_fX_sheet_2 b_nX_sheet_2 b_iX_sheetLength_2 b_shl_2 f2_0 f2_1
    have hg1 := hB9.1.2.2.1
    rw [ht] at hg1
    have hg2 := hB9.1.2.2.2
    rw [ht] at hg2
    have hSz := hB9.2
    rw [ht] at hSz
    have p8 := cj_2_0 (WX hX aX kX hT hM fX_ready fX_sheet_2 dX_sheet_2 nX_sheet_2 iX_sheetLength_2 xX_reader xX_solver xX_prover xX_values xX_clauses xX_nets) (WM hM aM kM iM_stands iM_variables iM_rows iM_goals iM_differents iM_cases fM_from fM_to fM_whole fM_ways iM_plainRows fM_plainRow fM_kept fM_goalOver fM_goalUnder fM_goalMax fM_different)
    obtain ⟨hP, hD⟩ := frameG p9 p8 hP hD hk1 hFc (fz_P ht hB9.1.1) hB9.1.2.1
    have hz9 : H.size ≤ s.heap.size + (nX_sheet_2 / 32 - (nX_sheet / 32)) := by (try dsimp only at hg1); omega
    have hn9 : nS s.heap.size H ≤ (2 * nX_sheet_2 - (2 * nX_sheet)) := by rw [hSz.n hS0]; (try dsimp only at hg2); omega
    refine W.tight (cells2 := (nX_sheet_2 / 32 - (nX_sheet / 32))) (slots2 := (2 * nX_sheet_2 - (2 * nX_sheet))) hz9 hn9 ?_
    clear hz9 hn9 hz0 hn0 hS0 hSz hg1 hg2
    refine lv_iload_n hx hb dX11_putGoal_25 rfl (lv_at hl 1 rfl) ?_
    refine lv_bipush (v := 9) hx hb dX11_putGoal_26 (by decide) ?_
    refine lv_imul hx hb dX11_putGoal_28 ?_
    refine lv_topi (fun y3 hy3 => ?_)
    obtain rfl : (iI (p1.toInt * 9)) = y3 := (hy3.trans (iI_mul2 (iI_of _) (by decide : (9 : Int32) = iI 9))).symm
    refine lv_istore_n hx hb dX11_putGoal_29 rfl hl (by decide) rfl (fun ls (hl : lv_has ls _ ([(2, .int (iI (p1.toInt * 9))), (0, .ref (hX 0)), (1, .int p1)])) => ?_)
    refine lv_iconst (v := 1) hx hb dX11_putGoal_30 (by decide) ?_
    refine lv_istore_n hx hb dX11_putGoal_31 rfl hl (by decide) rfl (fun ls (hl : lv_has ls _ ([(3, .int 1), (2, .int (iI (p1.toInt * 9))), (0, .ref (hX 0)), (1, .int p1)])) => ?_)
    refine lv_iconst (v := 0) hx hb dX11_putGoal_32 (by decide) ?_
    refine lv_istore hx hb dX11_putGoal_33 hl (by decide) rfl (fun ls (hl : lv_has ls _ ([(4, .int 0), (3, .int 1), (2, .int (iI (p1.toInt * 9))), (0, .ref (hX 0)), (1, .int p1)])) => ?_)
    have hl : lv_has _ _ ([(4, .int 0), (3, .int 1), (2, .int (iI (p1.toInt * 9))), (0, .ref (hX 0)), (1, .int p1)]) := lv_sub hl [0, 1, 2, 3, 4] rfl
    refine (fun (loop : ∀ (n9 : Nat) (fX_sheet_x35 : Nat → Int32) (dX_sheet_x35 : Nat) (nX_sheet_x35 : Nat) (iX_sheetLength_x35 : Int32) (l4_x35 : Int32) (l3_x35 : Int32) (H : Heap) (locs : List Loc) (ls : Array Slot), (∀ q : Nat, (-128) ≤ (fX_sheet_x35 q).toInt ∧ (fX_sheet_x35 q).toInt ≤ 127) → (64 ≤ nX_sheet_x35 ∧ nX_sheet_x35 ≤ 60000) → (0 ≤ iX_sheetLength_x35.toInt ∧ iX_sheetLength_x35.toInt ≤ 30000) → (0 ≤ l4_x35.toInt ∧ l4_x35.toInt ≤ 8) → (0 ≤ l3_x35.toInt ∧ l3_x35.toInt ≤ 1) → (iX_sheetLength_x35.toInt ≤ ((nX_sheet_x35 : Nat) : Int)) → (iX_sheetLength.toInt ≤ iX_sheetLength_x35.toInt) → (nX_sheet ≤ nX_sheet_x35) → (8 - l4_x35.toInt < ((n9 : Nat) : Int)) → va_P (dC, dI) vwCl (WX hX aX kX hT hM fX_ready fX_sheet_x35 dX_sheet_x35 nX_sheet_x35 iX_sheetLength_x35 xX_reader xX_solver xX_prover xX_values xX_clauses xX_nets ++ (WM hM aM kM iM_stands iM_variables iM_rows iM_goals iM_differents iM_cases fM_from fM_to fM_whole fM_ways iM_plainRows fM_plainRow fM_kept fM_goalOver fM_goalUnder fM_goalMax fM_different)) H → va_D A (WX hX aX kX hT hM fX_ready fX_sheet_x35 dX_sheet_x35 nX_sheet_x35 iX_sheetLength_x35 xX_reader xX_solver xX_prover xX_values xX_clauses xX_nets ++ (WM hM aM kM iM_stands iM_variables iM_rows iM_goals iM_differents iM_cases fM_from fM_to fM_whole fM_ways iM_plainRows fM_plainRow fM_kept fM_goalOver fM_goalUnder fM_goalMax fM_different)) → va_S A s.heap H locs → lv_has ls 6 [(4, .int l4_x35), (3, .int l3_x35), (2, .int (iI (p1.toInt * 9))), (0, .ref (hX 0)), (1, .int p1)] → W p l e _ s m _ below meth c H locs (nX_sheet_x35 / 32 - (nX_sheet / 32)) (2 * nX_sheet_x35 - (2 * nX_sheet)) _ (F0 m 35 ls [])) => loop (9) fX_sheet_2 dX_sheet_2 nX_sheet_2 iX_sheetLength_2 0 1 _ _ _ b_fX_sheet_2 (by first | exact b_nX_sheet_2 | with_reducible assumption | exact ⟨by omega, by omega⟩ | assumption) (b_iX_sheetLength_2) (show 0 ≤ (0 : Int32).toInt ∧ (0 : Int32).toInt ≤ 8 from by decide) (show 0 ≤ (1 : Int32).toInt ∧ (1 : Int32).toInt ≤ 1 from by decide) (by first | with_reducible assumption | omega | (rw [iI_t (by omega) (by omega)]; omega) | (have h7 : (0 : Int32).toInt = 0 := (by decide); omega)) (show iX_sheetLength.toInt ≤ iX_sheetLength_2.toInt from by omega) (show nX_sheet ≤ nX_sheet_2 from by omega) ((by have e9 : (0 : Int32).toInt = 0 := (by decide : (0 : Int32).toInt = 0); omega)) hP hD hS hl) ?_
    intro n9
    induction n9 with
    | zero => intro fX_sheet_x35 dX_sheet_x35 nX_sheet_x35 iX_sheetLength_x35 l4_x35 l3_x35 H locs ls b_fX_sheet_x35 b_nX_sheet_x35 b_iX_sheetLength_x35 b_l4_x35 b_l3_x35 b_shl_x35 hlx hgm0_x35 hf9; exact False.elim (by omega)
    | succ n9 ihx35 =>
      intro fX_sheet_x35 dX_sheet_x35 nX_sheet_x35 iX_sheetLength_x35 l4_x35 l3_x35 H locs ls b_fX_sheet_x35 b_nX_sheet_x35 b_iX_sheetLength_x35 b_l4_x35 b_l3_x35 b_shl_x35 hlx hgm0_x35 hfx35 hP hD hS hl
      refine lv_iload hx hb dX11_putGoal_35 (lv_at hl 0 rfl) ?_
      refine lv_aload_n hx hb dX11_putGoal_37 rfl (lv_at hl 3 rfl) ?_
      refine va_get (D := (dC, dI)) (ci := 11) (v := .ref (hM 0)) (C := RX11) (T := TX11) (N := 11) hx hb hts iwsMX11_putGoal_in11 hown hK hP 0 rfl rfl 2 (by decide) (hts _ hm_m_X11_putGoal_0) (fun _ h9 => h9) rfl dX11_putGoal_38 ?_
      refine va_get (D := (dC, dI)) (ci := 1) (v := .int iM_variables) (C := RX1) (T := TX1) (N := 17) hx hb hts iwsMX11_putGoal_in1 hown hK hP 3 rfl rfl 1 (by decide) (hts _ hm_m_X11_putGoal_1) (fun _ h9 => h9) rfl dX11_putGoal_41 ?_
      refine lv_icmp_ge (tgt := 99) hx hb dX11_putGoal_44 (by decide) (fun c_44 => ?_) (fun c_44 => ?_)
      · have t_44 : l4_x35.toInt ≥ iM_variables.toInt := toI_ge c_44 rfl rfl
        refine lv_aload_n hx hb dX11_putGoal_99 rfl (lv_at hl 3 rfl) ?_
        refine va_get (D := (dC, dI)) (ci := 11) (v := .ref (hM 0)) (C := RX11) (T := TX11) (N := 11) hx hb hts iwsMX11_putGoal_in11 hown hK hP 0 rfl rfl 2 (by decide) (hts _ hm_m_X11_putGoal_0) (fun _ h9 => h9) rfl dX11_putGoal_100 ?_
        refine va_get (D := (dC, dI)) (ci := 1) (v := .ref (aM 6)) (C := RX1) (T := TX1) (N := 17) hx hb hts iwsMX11_putGoal_in1 hown hK hP 3 rfl rfl 13 (by decide) (hts _ hm_m_X11_putGoal_2) (fun _ h9 => h9) rfl dX11_putGoal_103 ?_
        refine lv_iload_n hx hb dX11_putGoal_106 rfl (lv_at hl 2 rfl) ?_
        refine va_iald (cA := kM 6) (n := 27) (f := fM_goalOver) hx hb hK hP 10 8 rfl rfl (vp_iI (Int.le_trans (by decide) (Int.mul_le_mul_of_nonneg_right (b_p1.1) (by decide))) (Int.lt_of_le_of_lt (Int.mul_le_mul_of_nonneg_right (b_p1.2) (by decide)) (by decide)) (by decide)) dX11_putGoal_107 ?_
        refine lv_topi (fun v92 hv92 => ?_)
        clear hv92
        refine lv_istore hx hb dX11_putGoal_108 hl (by decide) rfl (fun ls (hl : lv_has ls _ ([(4, .int v92), (3, .int l3_x35), (2, .int (iI (p1.toInt * 9))), (0, .ref (hX 0)), (1, .int p1)])) => ?_)
        refine lv_iload_n hx hb dX11_putGoal_110 rfl (lv_at hl 1 rfl) ?_
        refine W.known (fun hzk hnk => ?_)
        refine W.widen (k := 1875) (n := 120000) (by omega) (by omega) ?_
        refine W.cut (pc := 187) (fun H locs ls stk => ∃ (fX_sheet_j45 : Nat → Int32) (dX_sheet_j45 : Nat) (nX_sheet_j45 : Nat) (iX_sheetLength_j45 : Int32), (∀ q : Nat, (-128) ≤ (fX_sheet_j45 q).toInt ∧ (fX_sheet_j45 q).toInt ≤ 127) ∧ (64 ≤ nX_sheet_j45 ∧ nX_sheet_j45 ≤ 60000) ∧ (0 ≤ iX_sheetLength_j45.toInt ∧ iX_sheetLength_j45.toInt ≤ 30000) ∧ (iX_sheetLength_j45.toInt ≤ ((nX_sheet_j45 : Nat) : Int)) ∧ (iX_sheetLength.toInt ≤ iX_sheetLength_j45.toInt) ∧ (nX_sheet ≤ nX_sheet_j45) ∧ (H.size + (nX_sheet / 32) ≤ s.heap.size + (nX_sheet_j45 / 32) ∧ nS s.heap.size H + (2 * nX_sheet) ≤ (2 * nX_sheet_j45)) ∧  stk = [] ∧ va_P (dC, dI) vwCl (WX hX aX kX hT hM fX_ready fX_sheet_j45 dX_sheet_j45 nX_sheet_j45 iX_sheetLength_j45 xX_reader xX_solver xX_prover xX_values xX_clauses xX_nets ++ (WM hM aM kM iM_stands iM_variables iM_rows iM_goals iM_differents iM_cases fM_from fM_to fM_whole fM_ways iM_plainRows fM_plainRow fM_kept fM_goalOver fM_goalUnder fM_goalMax fM_different)) H ∧ va_D A (WX hX aX kX hT hM fX_ready fX_sheet_j45 dX_sheet_j45 nX_sheet_j45 iX_sheetLength_j45 xX_reader xX_solver xX_prover xX_values xX_clauses xX_nets ++ (WM hM aM kM iM_stands iM_variables iM_rows iM_goals iM_differents iM_cases fM_from fM_to fM_whole fM_ways iM_plainRows fM_plainRow fM_kept fM_goalOver fM_goalUnder fM_goalMax fM_different)) ∧ va_S A s.heap H locs ∧ lv_has ls 6 [(4, .int v92), (3, .int l3_x35), (2, .int (iI (p1.toInt * 9))), (0, .ref (hX 0)), (1, .int p1)]) (fun join45 => ?_) ?_
        · refine W.tight (cells2 := (nX_sheet_x35 / 32 - (nX_sheet / 32))) (slots2 := (2 * nX_sheet_x35 - (2 * nX_sheet))) hzk hnk ?_
          refine lv_if_eq (tgt := 138) hx hb dX11_putGoal_111 (by decide) (fun c_111 => ?_) (fun c_111 => ?_)
          · have t_111 : l3_x35.toInt = 0 := toI_eq c_111 rfl (by decide : (0 : Int32).toInt = 0)
            refine lv_iload hx hb dX11_putGoal_138 (lv_at hl 0 rfl) ?_
            refine lv_if_eq (tgt := 187) hx hb dX11_putGoal_140 (by decide) (fun c_140 => ?_) (fun c_140 => ?_)
            · have t_140 : v92.toInt = 0 := toI_eq c_140 rfl (by decide : (0 : Int32).toInt = 0)
              have hl : lv_has _ _ ([(4, .int v92), (3, .int l3_x35), (2, .int (iI (p1.toInt * 9))), (0, .ref (hX 0)), (1, .int p1)]) := lv_sub hl [0, 1, 2, 3, 4] rfl
              refine W.known (fun hza hna => ?_)
              refine W.widen (k := 1875) (n := 120000) (by omega) (by omega) ?_
              exact join45 _ _ _ _ ⟨fX_sheet_x35, dX_sheet_x35, nX_sheet_x35, iX_sheetLength_x35, b_fX_sheet_x35, (by first | exact b_nX_sheet_x35 | with_reducible assumption | exact ⟨by omega, by omega⟩ | assumption), (b_iX_sheetLength_x35), (by first | with_reducible assumption | omega | (rw [iI_t (by omega) (by omega)]; omega) | (have h7 : (0 : Int32).toInt = 0 := (by decide); omega)), (show iX_sheetLength.toInt ≤ iX_sheetLength_x35.toInt from by omega), (show nX_sheet ≤ nX_sheet_x35 from by omega), ⟨by omega, by omega⟩, rfl, hP, hD, hS, hl⟩
            · have t_140 : ¬ v92.toInt = 0 := toI_neq c_140 rfl (by decide : (0 : Int32).toInt = 0)
              refine lv_aload_n hx hb dX11_putGoal_143 rfl (lv_at hl 3 rfl) ?_
              refine lv_iload hx hb dX11_putGoal_144 (lv_at hl 0 rfl) ?_
              refine lv_if_ge (tgt := 155) hx hb dX11_putGoal_146 (by decide) (fun c_146 => ?_) (fun c_146 => ?_)
              · have t_146 : v92.toInt ≥ 0 := toI_ge c_146 rfl (by decide : (0 : Int32).toInt = 0)
                obtain ⟨qS335, hR335, hSS335⟩ := hE.2.2.2 21 _ rfl
                refine lv_ldcwS hx hb hown hR335 dX11_putGoal_155 ?_
                refine W.known (fun hz0 hn0 => ?_)
                have hS0 := hS.1
                have p9 := cj_2_0 (WX hX aX kX hT hM fX_ready fX_sheet_x35 dX_sheet_x35 nX_sheet_x35 iX_sheetLength_x35 xX_reader xX_solver xX_prover xX_values xX_clauses xX_nets) (WM hM aM kM iM_stands iM_variables iM_rows iM_goals iM_differents iM_cases fM_from fM_to fM_whole fM_ways iM_plainRows fM_plainRow fM_kept fM_goalOver fM_goalUnder fM_goalMax fM_different)
                have hPc := hP.mem (fun q h => p9.mem_iff.mpr (List.mem_append_left _ h))
                have hDc := (hD.perm p9).left
                have hKc : va_K (dC, dI) vwCl (tX kX) _ := hK.sub [0, 1] rfl
                have hFc := freeG p9 hD hS hA
                refine va_callv (va_runV (As := [.ref qS335]) (rest := []) ⟨hx, hb, hml, hown, hts⟩ (Met.sV (m_X11_putText l dC dI hX aX kX hT hM fX_ready fX_sheet_x35 dX_sheet_x35 nX_sheet_x35 iX_sheetLength_x35 xX_reader xX_solver xX_prover xX_values xX_clauses xX_nets qS335 3 (fun j => ([32, 43, 32] : List Int32).getD j 0) b_fX_sheet_x35 (by first | exact b_nX_sheet_x35 | with_reducible assumption | exact ⟨by omega, by omega⟩ | assumption) (b_iX_sheetLength_x35) (by first | with_reducible assumption | omega | (rw [iI_t (by omega) (by omega)]; omega) | (have h7 : (0 : Int32).toInt = 0 := (by decide); omega)) (by decide) H.size) H) (cwV 1 hts gwsMX11_putGoal_0 rfl rfl rfl (by decide +kernel) ⟨by first | decide +kernel | (dsimp only [headSpec] <;> omega), by first | decide +kernel | (dsimp only [headSpec] <;> omega)⟩) ⟨fun a U g mk q => by obtain ⟨q0, qh, q1, qP, qK, qD, qE⟩ := q; exact ⟨q0, qh, q1, qP, va_K.moved (u := U) (U := U.calling g mk a) (Vm.Alike.refl U.vm) qK, qD, qE.same rfl⟩, va_recv hK hP (ci := 11) (q0 := 0) rfl rfl, fun U hU9 hW => ⟨rfl, hU9, by rw [hU9], by rw [hU9]; exact hPc, va_K.moved hW.alike hKc, hDc.weaken (fun _ _ _ _ => trivial), by rw [hU9]; exact (((hSS335 : (StrE qS335 3 (fun j => ([32, 43, 32] : List Int32).getD j 0)) A s s.heap).kept hS.2.1).narrow (fun q h => hFc q h)).warm hW⟩⟩ rfl rfl hl.1 rfl (lv_room (Nat.le_of_ble_eq_true rfl)) dX11_putGoal_158 ⟨by first | decide +kernel | (dsimp only [headSpec] <;> omega), by first | decide +kernel | (dsimp only [headSpec] <;> omega)⟩) hS (fun q _ h => hFc q h) hFc (fun u t9_ H locs ht hvm hw9 hB9 hz1 hk1 hS => ?_)
                revert u hw9 hB9
                refine fz_p4 ?_
                intro fX_sheet_106 dX_sheet_106 nX_sheet_106 iX_sheetLength_106 hw9 hB9
                try dsimp only at hw9 hB9
                revert hw9
                refine fz_a6 ?_
                intro b_fX_sheet_106 b_nX_sheet_106 b_iX_sheetLength_106 b_shl_106 f106_0 f106_1
                have hg1 := hB9.1.2.2.1
                rw [ht] at hg1
                have hg2 := hB9.1.2.2.2
                rw [ht] at hg2
                have hSz := hB9.2
                rw [ht] at hSz
                have p8 := cj_2_0 (WX hX aX kX hT hM fX_ready fX_sheet_106 dX_sheet_106 nX_sheet_106 iX_sheetLength_106 xX_reader xX_solver xX_prover xX_values xX_clauses xX_nets) (WM hM aM kM iM_stands iM_variables iM_rows iM_goals iM_differents iM_cases fM_from fM_to fM_whole fM_ways iM_plainRows fM_plainRow fM_kept fM_goalOver fM_goalUnder fM_goalMax fM_different)
                obtain ⟨hP, hD⟩ := frameG p9 p8 hP hD hk1 hFc (fz_P ht hB9.1.1) hB9.1.2.1
                have hz9 : H.size ≤ s.heap.size + (nX_sheet_106 / 32 - (nX_sheet / 32)) := by (try dsimp only at hg1); omega
                have hn9 : nS s.heap.size H ≤ (2 * nX_sheet_106 - (2 * nX_sheet)) := by rw [hSz.n hS0]; (try dsimp only at hg2); omega
                refine W.tight (cells2 := (nX_sheet_106 / 32 - (nX_sheet / 32))) (slots2 := (2 * nX_sheet_106 - (2 * nX_sheet))) hz9 hn9 ?_
                clear hz9 hn9 hz0 hn0 hS0 hSz hg1 hg2
                refine lv_aload_n hx hb dX11_putGoal_161 rfl (lv_at hl 3 rfl) ?_
                refine lv_iload hx hb dX11_putGoal_162 (lv_at hl 0 rfl) ?_
                refine W.known (fun hzk hnk => ?_)
                refine W.widen (k := 1875) (n := 120000) (by omega) (by omega) ?_
                refine W.cut (pc := 175) (fun H locs ls stk => ∃ (k0_j46 : Int32), (iX_sheetLength.toInt ≤ iX_sheetLength_106.toInt) ∧ (H.size + (nX_sheet / 32) ≤ s.heap.size + (nX_sheet_106 / 32) ∧ nS s.heap.size H + (2 * nX_sheet) ≤ (2 * nX_sheet_106)) ∧  stk = [.int k0_j46, .ref (hX 0)] ∧ va_P (dC, dI) vwCl (WX hX aX kX hT hM fX_ready fX_sheet_106 dX_sheet_106 nX_sheet_106 iX_sheetLength_106 xX_reader xX_solver xX_prover xX_values xX_clauses xX_nets ++ (WM hM aM kM iM_stands iM_variables iM_rows iM_goals iM_differents iM_cases fM_from fM_to fM_whole fM_ways iM_plainRows fM_plainRow fM_kept fM_goalOver fM_goalUnder fM_goalMax fM_different)) H ∧ va_D A (WX hX aX kX hT hM fX_ready fX_sheet_106 dX_sheet_106 nX_sheet_106 iX_sheetLength_106 xX_reader xX_solver xX_prover xX_values xX_clauses xX_nets ++ (WM hM aM kM iM_stands iM_variables iM_rows iM_goals iM_differents iM_cases fM_from fM_to fM_whole fM_ways iM_plainRows fM_plainRow fM_kept fM_goalOver fM_goalUnder fM_goalMax fM_different)) ∧ va_S A s.heap H locs ∧ lv_has ls 6 [(4, .int v92), (3, .int l3_x35), (2, .int (iI (p1.toInt * 9))), (0, .ref (hX 0)), (1, .int p1)]) (fun join46 => ?_) ?_
                · refine W.tight (cells2 := (nX_sheet_106 / 32 - (nX_sheet / 32))) (slots2 := (2 * nX_sheet_106 - (2 * nX_sheet))) hzk hnk ?_
                  refine lv_if_ge (tgt := 173) hx hb dX11_putGoal_164 (by decide) (fun c_164 => ?_) (fun c_164 => ?_)
                  · have t_164 : v92.toInt ≥ 0 := toI_ge c_164 rfl (by decide : (0 : Int32).toInt = 0)
                    refine lv_iload hx hb dX11_putGoal_173 (lv_at hl 0 rfl) ?_
                    have hl : lv_has _ _ ([(4, .int v92), (3, .int l3_x35), (2, .int (iI (p1.toInt * 9))), (0, .ref (hX 0)), (1, .int p1)]) := lv_sub hl [0, 1, 2, 3, 4] rfl
                    refine W.known (fun hza hna => ?_)
                    refine W.widen (k := 1875) (n := 120000) (by omega) (by omega) ?_
                    exact join46 _ _ _ _ ⟨v92, (show iX_sheetLength.toInt ≤ iX_sheetLength_106.toInt from by omega), ⟨by omega, by omega⟩, rfl, hP, hD, hS, hl⟩
                  · have t_164 : ¬ v92.toInt ≥ 0 := toI_nge c_164 rfl (by decide : (0 : Int32).toInt = 0)
                    refine lv_iload hx hb dX11_putGoal_167 (lv_at hl 0 rfl) ?_
                    refine lv_ineg hx hb dX11_putGoal_169 ?_
                    refine lv_topi (fun y108 hy108 => ?_)
                    obtain rfl : (iI (-v92.toInt)) = y108 := (hy108.trans (iI_neg2 (iI_of _))).symm
                    refine lv_goto (tgt := 175) hx hb dX11_putGoal_170 (by decide) ?_
                    have hl : lv_has _ _ ([(4, .int v92), (3, .int l3_x35), (2, .int (iI (p1.toInt * 9))), (0, .ref (hX 0)), (1, .int p1)]) := lv_sub hl [0, 1, 2, 3, 4] rfl
                    refine W.known (fun hza hna => ?_)
                    refine W.widen (k := 1875) (n := 120000) (by omega) (by omega) ?_
                    exact join46 _ _ _ _ ⟨(iI (-v92.toInt)), (show iX_sheetLength.toInt ≤ iX_sheetLength_106.toInt from by omega), ⟨by omega, by omega⟩, rfl, hP, hD, hS, hl⟩
                · intro H locs ls stk
                  refine fz_e1 ?_
                  intro k0_j46
                  refine fz_a7 ?_
                  intro hjx hzn9_1 hst9_2 hP hD hS hl
                  have hzj := hzn9_1.1
                  have hnj := hzn9_1.2
                  clear hzn9_1
                  subst hst9_2
                  refine W.tight (cells2 := (nX_sheet_106 / 32 - (nX_sheet / 32))) (slots2 := (2 * nX_sheet_106 - (2 * nX_sheet))) (tg1 hzj hS.1) (tg2 hnj) ?_
                  refine lv_aload_n hx hb dX11_putGoal_175 rfl (lv_at hl 3 rfl) ?_
                  refine va_get (D := (dC, dI)) (ci := 11) (v := .ref (hM 0)) (C := RX11) (T := TX11) (N := 11) hx hb hts iwsMX11_putGoal_in11 hown hK hP 0 rfl rfl 2 (by decide) (hts _ hm_m_X11_putGoal_0) (fun _ h9 => h9) rfl dX11_putGoal_176 ?_
                  refine va_get (D := (dC, dI)) (ci := 1) (v := .ref (aM 7)) (C := RX1) (T := TX1) (N := 17) hx hb hts iwsMX11_putGoal_in1 hown hK hP 3 rfl rfl 14 (by decide) (hts _ hm_m_X11_putGoal_3) (fun _ h9 => h9) rfl dX11_putGoal_179 ?_
                  refine lv_iload_n hx hb dX11_putGoal_182 rfl (lv_at hl 2 rfl) ?_
                  refine va_iald (cA := kM 7) (n := 27) (f := fM_goalUnder) hx hb hK hP 11 9 rfl rfl (vp_iI (Int.le_trans (by decide) (Int.mul_le_mul_of_nonneg_right (b_p1.1) (by decide))) (Int.lt_of_le_of_lt (Int.mul_le_mul_of_nonneg_right (b_p1.2) (by decide)) (by decide)) (by decide)) dX11_putGoal_183 ?_
                  refine lv_topi (fun v109 hv109 => ?_)
                  clear hv109
                  refine W.known (fun hz0 hn0 => ?_)
                  have hS0 := hS.1
                  have p9 := cj_2_0 (WX hX aX kX hT hM fX_ready fX_sheet_106 dX_sheet_106 nX_sheet_106 iX_sheetLength_106 xX_reader xX_solver xX_prover xX_values xX_clauses xX_nets) (WM hM aM kM iM_stands iM_variables iM_rows iM_goals iM_differents iM_cases fM_from fM_to fM_whole fM_ways iM_plainRows fM_plainRow fM_kept fM_goalOver fM_goalUnder fM_goalMax fM_different)
                  have hPc := hP.mem (fun q h => p9.mem_iff.mpr (List.mem_append_left _ h))
                  have hDc := (hD.perm p9).left
                  have hKc : va_K (dC, dI) vwCl (tX kX) _ := hK.sub [0, 1] rfl
                  have hFc := freeG p9 hD hS hA
                  refine va_callv (va_runV (As := [.int k0_j46, .int v109]) (rest := []) ⟨hx, hb, hml, hown, hts⟩ (Met.sV (m_X11_putRatio l dC dI hX aX kX hT hM fX_ready fX_sheet_106 dX_sheet_106 nX_sheet_106 iX_sheetLength_106 xX_reader xX_solver xX_prover xX_values xX_clauses xX_nets k0_j46 v109 b_fX_sheet_106 (by first | exact b_nX_sheet_106 | with_reducible assumption | exact ⟨by omega, by omega⟩ | assumption) (b_iX_sheetLength_106) (by first | with_reducible assumption | omega | (rw [iI_t (by omega) (by omega)]; omega) | (have h7 : (0 : Int32).toInt = 0 := (by decide); omega)) H.size) H) (cwV 2 hts gwsMX11_putGoal_3 rfl rfl rfl (by decide +kernel) ⟨by first | decide +kernel | (dsimp only [headSpec] <;> omega), by first | decide +kernel | (dsimp only [headSpec] <;> omega)⟩) ⟨fun a U g mk q => by obtain ⟨q0, qh, q1, qP, qK, qD⟩ := q; exact ⟨q0, qh, q1, qP, va_K.moved (u := U) (U := U.calling g mk a) (Vm.Alike.refl U.vm) qK, qD⟩, va_recv hK hP (ci := 11) (q0 := 0) rfl rfl, fun U hU9 hW => ⟨rfl, hU9, by rw [hU9], by rw [hU9]; exact hPc, va_K.moved hW.alike hKc, hDc.weaken (fun _ _ _ _ => trivial)⟩⟩ rfl rfl hl.1 rfl (lv_room (Nat.le_of_ble_eq_true rfl)) dX11_putGoal_184 ⟨by first | decide +kernel | (dsimp only [headSpec] <;> omega), by first | decide +kernel | (dsimp only [headSpec] <;> omega)⟩) hS (fun q _ h => hFc q h) hFc (fun u t9_ H locs ht hvm hw9 hB9 hz1 hk1 hS => ?_)
                  revert u hw9 hB9
                  refine fz_p4 ?_
                  intro fX_sheet_110 dX_sheet_110 nX_sheet_110 iX_sheetLength_110 hw9 hB9
                  try dsimp only at hw9 hB9
                  revert hw9
                  refine fz_a6 ?_
                  intro b_fX_sheet_110 b_nX_sheet_110 b_iX_sheetLength_110 b_shl_110 f110_0 f110_1
                  have hg1 := hB9.1.2.2.1
                  rw [ht] at hg1
                  have hg2 := hB9.1.2.2.2
                  rw [ht] at hg2
                  have hSz := hB9.2
                  rw [ht] at hSz
                  have p8 := cj_2_0 (WX hX aX kX hT hM fX_ready fX_sheet_110 dX_sheet_110 nX_sheet_110 iX_sheetLength_110 xX_reader xX_solver xX_prover xX_values xX_clauses xX_nets) (WM hM aM kM iM_stands iM_variables iM_rows iM_goals iM_differents iM_cases fM_from fM_to fM_whole fM_ways iM_plainRows fM_plainRow fM_kept fM_goalOver fM_goalUnder fM_goalMax fM_different)
                  obtain ⟨hP, hD⟩ := frameG p9 p8 hP hD hk1 hFc (fz_P ht hB9.1.1) hB9.1.2.1
                  have hz9 : H.size ≤ s.heap.size + (nX_sheet_110 / 32 - (nX_sheet / 32)) := by (try dsimp only at hg1); omega
                  have hn9 : nS s.heap.size H ≤ (2 * nX_sheet_110 - (2 * nX_sheet)) := by rw [hSz.n hS0]; (try dsimp only at hg2); omega
                  refine W.tight (cells2 := (nX_sheet_110 / 32 - (nX_sheet / 32))) (slots2 := (2 * nX_sheet_110 - (2 * nX_sheet))) hz9 hn9 ?_
                  clear hz9 hn9 hz0 hn0 hS0 hSz hg1 hg2
                  have hl : lv_has _ _ ([(4, .int v92), (3, .int l3_x35), (2, .int (iI (p1.toInt * 9))), (0, .ref (hX 0)), (1, .int p1)]) := lv_sub hl [0, 1, 2, 3, 4] rfl
                  refine W.known (fun hza hna => ?_)
                  refine W.widen (k := 1875) (n := 120000) (by omega) (by omega) ?_
                  exact join45 _ _ _ _ ⟨fX_sheet_110, dX_sheet_110, nX_sheet_110, iX_sheetLength_110, b_fX_sheet_110, (by first | exact b_nX_sheet_110 | with_reducible assumption | exact ⟨by omega, by omega⟩ | assumption), (b_iX_sheetLength_110), (by first | with_reducible assumption | omega | (rw [iI_t (by omega) (by omega)]; omega) | (have h7 : (0 : Int32).toInt = 0 := (by decide); omega)), (show iX_sheetLength.toInt ≤ iX_sheetLength_110.toInt from by omega), (show nX_sheet ≤ nX_sheet_110 from by omega), ⟨by omega, by omega⟩, rfl, hP, hD, hS, hl⟩
              · have t_146 : ¬ v92.toInt ≥ 0 := toI_nge c_146 rfl (by decide : (0 : Int32).toInt = 0)
                obtain ⟨qS333, hR333, hSS333⟩ := hE.2.2.2 20 _ rfl
                refine lv_ldcwS hx hb hown hR333 dX11_putGoal_149 ?_
                refine lv_goto (tgt := 158) hx hb dX11_putGoal_152 (by decide) ?_
                refine W.known (fun hz0 hn0 => ?_)
                have hS0 := hS.1
                have p9 := cj_2_0 (WX hX aX kX hT hM fX_ready fX_sheet_x35 dX_sheet_x35 nX_sheet_x35 iX_sheetLength_x35 xX_reader xX_solver xX_prover xX_values xX_clauses xX_nets) (WM hM aM kM iM_stands iM_variables iM_rows iM_goals iM_differents iM_cases fM_from fM_to fM_whole fM_ways iM_plainRows fM_plainRow fM_kept fM_goalOver fM_goalUnder fM_goalMax fM_different)
                have hPc := hP.mem (fun q h => p9.mem_iff.mpr (List.mem_append_left _ h))
                have hDc := (hD.perm p9).left
                have hKc : va_K (dC, dI) vwCl (tX kX) _ := hK.sub [0, 1] rfl
                have hFc := freeG p9 hD hS hA
                refine va_callv (va_runV (As := [.ref qS333]) (rest := []) ⟨hx, hb, hml, hown, hts⟩ (Met.sV (m_X11_putText l dC dI hX aX kX hT hM fX_ready fX_sheet_x35 dX_sheet_x35 nX_sheet_x35 iX_sheetLength_x35 xX_reader xX_solver xX_prover xX_values xX_clauses xX_nets qS333 3 (fun j => ([32, 45, 32] : List Int32).getD j 0) b_fX_sheet_x35 (by first | exact b_nX_sheet_x35 | with_reducible assumption | exact ⟨by omega, by omega⟩ | assumption) (b_iX_sheetLength_x35) (by first | with_reducible assumption | omega | (rw [iI_t (by omega) (by omega)]; omega) | (have h7 : (0 : Int32).toInt = 0 := (by decide); omega)) (by decide) H.size) H) (cwV 1 hts gwsMX11_putGoal_0 rfl rfl rfl (by decide +kernel) ⟨by first | decide +kernel | (dsimp only [headSpec] <;> omega), by first | decide +kernel | (dsimp only [headSpec] <;> omega)⟩) ⟨fun a U g mk q => by obtain ⟨q0, qh, q1, qP, qK, qD, qE⟩ := q; exact ⟨q0, qh, q1, qP, va_K.moved (u := U) (U := U.calling g mk a) (Vm.Alike.refl U.vm) qK, qD, qE.same rfl⟩, va_recv hK hP (ci := 11) (q0 := 0) rfl rfl, fun U hU9 hW => ⟨rfl, hU9, by rw [hU9], by rw [hU9]; exact hPc, va_K.moved hW.alike hKc, hDc.weaken (fun _ _ _ _ => trivial), by rw [hU9]; exact (((hSS333 : (StrE qS333 3 (fun j => ([32, 45, 32] : List Int32).getD j 0)) A s s.heap).kept hS.2.1).narrow (fun q h => hFc q h)).warm hW⟩⟩ rfl rfl hl.1 rfl (lv_room (Nat.le_of_ble_eq_true rfl)) dX11_putGoal_158 ⟨by first | decide +kernel | (dsimp only [headSpec] <;> omega), by first | decide +kernel | (dsimp only [headSpec] <;> omega)⟩) hS (fun q _ h => hFc q h) hFc (fun u t9_ H locs ht hvm hw9 hB9 hz1 hk1 hS => ?_)
                revert u hw9 hB9
                refine fz_p4 ?_
                intro fX_sheet_111 dX_sheet_111 nX_sheet_111 iX_sheetLength_111 hw9 hB9
                try dsimp only at hw9 hB9
                revert hw9
                refine fz_a6 ?_
                intro b_fX_sheet_111 b_nX_sheet_111 b_iX_sheetLength_111 b_shl_111 f111_0 f111_1
                have hg1 := hB9.1.2.2.1
                rw [ht] at hg1
                have hg2 := hB9.1.2.2.2
                rw [ht] at hg2
                have hSz := hB9.2
                rw [ht] at hSz
                have p8 := cj_2_0 (WX hX aX kX hT hM fX_ready fX_sheet_111 dX_sheet_111 nX_sheet_111 iX_sheetLength_111 xX_reader xX_solver xX_prover xX_values xX_clauses xX_nets) (WM hM aM kM iM_stands iM_variables iM_rows iM_goals iM_differents iM_cases fM_from fM_to fM_whole fM_ways iM_plainRows fM_plainRow fM_kept fM_goalOver fM_goalUnder fM_goalMax fM_different)
                obtain ⟨hP, hD⟩ := frameG p9 p8 hP hD hk1 hFc (fz_P ht hB9.1.1) hB9.1.2.1
                have hz9 : H.size ≤ s.heap.size + (nX_sheet_111 / 32 - (nX_sheet / 32)) := by (try dsimp only at hg1); omega
                have hn9 : nS s.heap.size H ≤ (2 * nX_sheet_111 - (2 * nX_sheet)) := by rw [hSz.n hS0]; (try dsimp only at hg2); omega
                refine W.tight (cells2 := (nX_sheet_111 / 32 - (nX_sheet / 32))) (slots2 := (2 * nX_sheet_111 - (2 * nX_sheet))) hz9 hn9 ?_
                clear hz9 hn9 hz0 hn0 hS0 hSz hg1 hg2
                refine lv_aload_n hx hb dX11_putGoal_161 rfl (lv_at hl 3 rfl) ?_
                refine lv_iload hx hb dX11_putGoal_162 (lv_at hl 0 rfl) ?_
                refine W.known (fun hzk hnk => ?_)
                refine W.widen (k := 1875) (n := 120000) (by omega) (by omega) ?_
                refine W.cut (pc := 175) (fun H locs ls stk => ∃ (k0_j47 : Int32), (iX_sheetLength.toInt ≤ iX_sheetLength_111.toInt) ∧ (H.size + (nX_sheet / 32) ≤ s.heap.size + (nX_sheet_111 / 32) ∧ nS s.heap.size H + (2 * nX_sheet) ≤ (2 * nX_sheet_111)) ∧  stk = [.int k0_j47, .ref (hX 0)] ∧ va_P (dC, dI) vwCl (WX hX aX kX hT hM fX_ready fX_sheet_111 dX_sheet_111 nX_sheet_111 iX_sheetLength_111 xX_reader xX_solver xX_prover xX_values xX_clauses xX_nets ++ (WM hM aM kM iM_stands iM_variables iM_rows iM_goals iM_differents iM_cases fM_from fM_to fM_whole fM_ways iM_plainRows fM_plainRow fM_kept fM_goalOver fM_goalUnder fM_goalMax fM_different)) H ∧ va_D A (WX hX aX kX hT hM fX_ready fX_sheet_111 dX_sheet_111 nX_sheet_111 iX_sheetLength_111 xX_reader xX_solver xX_prover xX_values xX_clauses xX_nets ++ (WM hM aM kM iM_stands iM_variables iM_rows iM_goals iM_differents iM_cases fM_from fM_to fM_whole fM_ways iM_plainRows fM_plainRow fM_kept fM_goalOver fM_goalUnder fM_goalMax fM_different)) ∧ va_S A s.heap H locs ∧ lv_has ls 6 [(4, .int v92), (3, .int l3_x35), (2, .int (iI (p1.toInt * 9))), (0, .ref (hX 0)), (1, .int p1)]) (fun join47 => ?_) ?_
                · refine W.tight (cells2 := (nX_sheet_111 / 32 - (nX_sheet / 32))) (slots2 := (2 * nX_sheet_111 - (2 * nX_sheet))) hzk hnk ?_
                  refine lv_if_ge (tgt := 173) hx hb dX11_putGoal_164 (by decide) (fun c_164 => ?_) (fun c_164 => ?_)
                  · have t_164 : v92.toInt ≥ 0 := toI_ge c_164 rfl (by decide : (0 : Int32).toInt = 0)
                    refine lv_iload hx hb dX11_putGoal_173 (lv_at hl 0 rfl) ?_
                    have hl : lv_has _ _ ([(4, .int v92), (3, .int l3_x35), (2, .int (iI (p1.toInt * 9))), (0, .ref (hX 0)), (1, .int p1)]) := lv_sub hl [0, 1, 2, 3, 4] rfl
                    refine W.known (fun hza hna => ?_)
                    refine W.widen (k := 1875) (n := 120000) (by omega) (by omega) ?_
                    exact join47 _ _ _ _ ⟨v92, (show iX_sheetLength.toInt ≤ iX_sheetLength_111.toInt from by omega), ⟨by omega, by omega⟩, rfl, hP, hD, hS, hl⟩
                  · have t_164 : ¬ v92.toInt ≥ 0 := toI_nge c_164 rfl (by decide : (0 : Int32).toInt = 0)
                    refine lv_iload hx hb dX11_putGoal_167 (lv_at hl 0 rfl) ?_
                    refine lv_ineg hx hb dX11_putGoal_169 ?_
                    refine lv_topi (fun y113 hy113 => ?_)
                    obtain rfl : (iI (-v92.toInt)) = y113 := (hy113.trans (iI_neg2 (iI_of _))).symm
                    refine lv_goto (tgt := 175) hx hb dX11_putGoal_170 (by decide) ?_
                    have hl : lv_has _ _ ([(4, .int v92), (3, .int l3_x35), (2, .int (iI (p1.toInt * 9))), (0, .ref (hX 0)), (1, .int p1)]) := lv_sub hl [0, 1, 2, 3, 4] rfl
                    refine W.known (fun hza hna => ?_)
                    refine W.widen (k := 1875) (n := 120000) (by omega) (by omega) ?_
                    exact join47 _ _ _ _ ⟨(iI (-v92.toInt)), (show iX_sheetLength.toInt ≤ iX_sheetLength_111.toInt from by omega), ⟨by omega, by omega⟩, rfl, hP, hD, hS, hl⟩
                · intro H locs ls stk
                  refine fz_e1 ?_
                  intro k0_j47
                  refine fz_a7 ?_
                  intro hjx hzn9_1 hst9_2 hP hD hS hl
                  have hzj := hzn9_1.1
                  have hnj := hzn9_1.2
                  clear hzn9_1
                  subst hst9_2
                  refine W.tight (cells2 := (nX_sheet_111 / 32 - (nX_sheet / 32))) (slots2 := (2 * nX_sheet_111 - (2 * nX_sheet))) (tg1 hzj hS.1) (tg2 hnj) ?_
                  refine lv_aload_n hx hb dX11_putGoal_175 rfl (lv_at hl 3 rfl) ?_
                  refine va_get (D := (dC, dI)) (ci := 11) (v := .ref (hM 0)) (C := RX11) (T := TX11) (N := 11) hx hb hts iwsMX11_putGoal_in11 hown hK hP 0 rfl rfl 2 (by decide) (hts _ hm_m_X11_putGoal_0) (fun _ h9 => h9) rfl dX11_putGoal_176 ?_
                  refine va_get (D := (dC, dI)) (ci := 1) (v := .ref (aM 7)) (C := RX1) (T := TX1) (N := 17) hx hb hts iwsMX11_putGoal_in1 hown hK hP 3 rfl rfl 14 (by decide) (hts _ hm_m_X11_putGoal_3) (fun _ h9 => h9) rfl dX11_putGoal_179 ?_
                  refine lv_iload_n hx hb dX11_putGoal_182 rfl (lv_at hl 2 rfl) ?_
                  refine va_iald (cA := kM 7) (n := 27) (f := fM_goalUnder) hx hb hK hP 11 9 rfl rfl (vp_iI (Int.le_trans (by decide) (Int.mul_le_mul_of_nonneg_right (b_p1.1) (by decide))) (Int.lt_of_le_of_lt (Int.mul_le_mul_of_nonneg_right (b_p1.2) (by decide)) (by decide)) (by decide)) dX11_putGoal_183 ?_
                  refine lv_topi (fun v114 hv114 => ?_)
                  clear hv114
                  refine W.known (fun hz0 hn0 => ?_)
                  have hS0 := hS.1
                  have p9 := cj_2_0 (WX hX aX kX hT hM fX_ready fX_sheet_111 dX_sheet_111 nX_sheet_111 iX_sheetLength_111 xX_reader xX_solver xX_prover xX_values xX_clauses xX_nets) (WM hM aM kM iM_stands iM_variables iM_rows iM_goals iM_differents iM_cases fM_from fM_to fM_whole fM_ways iM_plainRows fM_plainRow fM_kept fM_goalOver fM_goalUnder fM_goalMax fM_different)
                  have hPc := hP.mem (fun q h => p9.mem_iff.mpr (List.mem_append_left _ h))
                  have hDc := (hD.perm p9).left
                  have hKc : va_K (dC, dI) vwCl (tX kX) _ := hK.sub [0, 1] rfl
                  have hFc := freeG p9 hD hS hA
                  refine va_callv (va_runV (As := [.int k0_j47, .int v114]) (rest := []) ⟨hx, hb, hml, hown, hts⟩ (Met.sV (m_X11_putRatio l dC dI hX aX kX hT hM fX_ready fX_sheet_111 dX_sheet_111 nX_sheet_111 iX_sheetLength_111 xX_reader xX_solver xX_prover xX_values xX_clauses xX_nets k0_j47 v114 b_fX_sheet_111 (by first | exact b_nX_sheet_111 | with_reducible assumption | exact ⟨by omega, by omega⟩ | assumption) (b_iX_sheetLength_111) (by first | with_reducible assumption | omega | (rw [iI_t (by omega) (by omega)]; omega) | (have h7 : (0 : Int32).toInt = 0 := (by decide); omega)) H.size) H) (cwV 2 hts gwsMX11_putGoal_3 rfl rfl rfl (by decide +kernel) ⟨by first | decide +kernel | (dsimp only [headSpec] <;> omega), by first | decide +kernel | (dsimp only [headSpec] <;> omega)⟩) ⟨fun a U g mk q => by obtain ⟨q0, qh, q1, qP, qK, qD⟩ := q; exact ⟨q0, qh, q1, qP, va_K.moved (u := U) (U := U.calling g mk a) (Vm.Alike.refl U.vm) qK, qD⟩, va_recv hK hP (ci := 11) (q0 := 0) rfl rfl, fun U hU9 hW => ⟨rfl, hU9, by rw [hU9], by rw [hU9]; exact hPc, va_K.moved hW.alike hKc, hDc.weaken (fun _ _ _ _ => trivial)⟩⟩ rfl rfl hl.1 rfl (lv_room (Nat.le_of_ble_eq_true rfl)) dX11_putGoal_184 ⟨by first | decide +kernel | (dsimp only [headSpec] <;> omega), by first | decide +kernel | (dsimp only [headSpec] <;> omega)⟩) hS (fun q _ h => hFc q h) hFc (fun u t9_ H locs ht hvm hw9 hB9 hz1 hk1 hS => ?_)
                  revert u hw9 hB9
                  refine fz_p4 ?_
                  intro fX_sheet_115 dX_sheet_115 nX_sheet_115 iX_sheetLength_115 hw9 hB9
                  try dsimp only at hw9 hB9
                  revert hw9
                  refine fz_a6 ?_
                  intro b_fX_sheet_115 b_nX_sheet_115 b_iX_sheetLength_115 b_shl_115 f115_0 f115_1
                  have hg1 := hB9.1.2.2.1
                  rw [ht] at hg1
                  have hg2 := hB9.1.2.2.2
                  rw [ht] at hg2
                  have hSz := hB9.2
                  rw [ht] at hSz
                  have p8 := cj_2_0 (WX hX aX kX hT hM fX_ready fX_sheet_115 dX_sheet_115 nX_sheet_115 iX_sheetLength_115 xX_reader xX_solver xX_prover xX_values xX_clauses xX_nets) (WM hM aM kM iM_stands iM_variables iM_rows iM_goals iM_differents iM_cases fM_from fM_to fM_whole fM_ways iM_plainRows fM_plainRow fM_kept fM_goalOver fM_goalUnder fM_goalMax fM_different)
                  obtain ⟨hP, hD⟩ := frameG p9 p8 hP hD hk1 hFc (fz_P ht hB9.1.1) hB9.1.2.1
                  have hz9 : H.size ≤ s.heap.size + (nX_sheet_115 / 32 - (nX_sheet / 32)) := by (try dsimp only at hg1); omega
                  have hn9 : nS s.heap.size H ≤ (2 * nX_sheet_115 - (2 * nX_sheet)) := by rw [hSz.n hS0]; (try dsimp only at hg2); omega
                  refine W.tight (cells2 := (nX_sheet_115 / 32 - (nX_sheet / 32))) (slots2 := (2 * nX_sheet_115 - (2 * nX_sheet))) hz9 hn9 ?_
                  clear hz9 hn9 hz0 hn0 hS0 hSz hg1 hg2
                  have hl : lv_has _ _ ([(4, .int v92), (3, .int l3_x35), (2, .int (iI (p1.toInt * 9))), (0, .ref (hX 0)), (1, .int p1)]) := lv_sub hl [0, 1, 2, 3, 4] rfl
                  refine W.known (fun hza hna => ?_)
                  refine W.widen (k := 1875) (n := 120000) (by omega) (by omega) ?_
                  exact join45 _ _ _ _ ⟨fX_sheet_115, dX_sheet_115, nX_sheet_115, iX_sheetLength_115, b_fX_sheet_115, (by first | exact b_nX_sheet_115 | with_reducible assumption | exact ⟨by omega, by omega⟩ | assumption), (b_iX_sheetLength_115), (by first | with_reducible assumption | omega | (rw [iI_t (by omega) (by omega)]; omega) | (have h7 : (0 : Int32).toInt = 0 := (by decide); omega)), (show iX_sheetLength.toInt ≤ iX_sheetLength_115.toInt from by omega), (show nX_sheet ≤ nX_sheet_115 from by omega), ⟨by omega, by omega⟩, rfl, hP, hD, hS, hl⟩
          · have t_111 : ¬ l3_x35.toInt = 0 := toI_neq c_111 rfl (by decide : (0 : Int32).toInt = 0)
            refine lv_aload_n hx hb dX11_putGoal_114 rfl (lv_at hl 3 rfl) ?_
            refine lv_bipush (v := 32) hx hb dX11_putGoal_115 (by decide) ?_
            refine W.known (fun hz0 hn0 => ?_)
            have hS0 := hS.1
            have p9 := cj_2_0 (WX hX aX kX hT hM fX_ready fX_sheet_x35 dX_sheet_x35 nX_sheet_x35 iX_sheetLength_x35 xX_reader xX_solver xX_prover xX_values xX_clauses xX_nets) (WM hM aM kM iM_stands iM_variables iM_rows iM_goals iM_differents iM_cases fM_from fM_to fM_whole fM_ways iM_plainRows fM_plainRow fM_kept fM_goalOver fM_goalUnder fM_goalMax fM_different)
            have hPc := hP.mem (fun q h => p9.mem_iff.mpr (List.mem_append_left _ h))
            have hDc := (hD.perm p9).left
            have hKc : va_K (dC, dI) vwCl (tX kX) _ := hK.sub [0, 1] rfl
            have hFc := freeG p9 hD hS hA
            refine va_callv (va_runV (As := [.int 32]) (rest := []) ⟨hx, hb, hml, hown, hts⟩ (Met.sV (m_X11_put l dC dI hX aX kX hT hM fX_ready fX_sheet_x35 dX_sheet_x35 nX_sheet_x35 iX_sheetLength_x35 xX_reader xX_solver xX_prover xX_values xX_clauses xX_nets 32 b_fX_sheet_x35 (by first | exact b_nX_sheet_x35 | with_reducible assumption | exact ⟨by omega, by omega⟩ | assumption) (b_iX_sheetLength_x35) (by first | with_reducible assumption | omega | (rw [iI_t (by omega) (by omega)]; omega) | (have h7 : (0 : Int32).toInt = 0 := (by decide); omega)) H.size) H) (cwV 1 hts gwsMX11_putGoal_2 rfl rfl rfl (by decide +kernel) ⟨by first | decide +kernel | (dsimp only [headSpec] <;> omega), by first | decide +kernel | (dsimp only [headSpec] <;> omega)⟩) ⟨fun a U g mk q => by obtain ⟨q0, qh, q1, qP, qK, qD⟩ := q; exact ⟨q0, qh, q1, qP, va_K.moved (u := U) (U := U.calling g mk a) (Vm.Alike.refl U.vm) qK, qD⟩, va_recv hK hP (ci := 11) (q0 := 0) rfl rfl, fun U hU9 hW => ⟨rfl, hU9, by rw [hU9], by rw [hU9]; exact hPc, va_K.moved hW.alike hKc, hDc.weaken (fun _ _ _ _ => trivial)⟩⟩ rfl rfl hl.1 rfl (lv_room (Nat.le_of_ble_eq_true rfl)) dX11_putGoal_117 ⟨by first | decide +kernel | (dsimp only [headSpec] <;> omega), by first | decide +kernel | (dsimp only [headSpec] <;> omega)⟩) hS (fun q _ h => hFc q h) hFc (fun u t9_ H locs ht hvm hw9 hB9 hz1 hk1 hS => ?_)
            revert u hw9 hB9
            refine fz_p4 ?_
            intro fX_sheet_116 dX_sheet_116 nX_sheet_116 iX_sheetLength_116 hw9 hB9
            try dsimp only at hw9 hB9
            revert hw9
            refine fz_a6 ?_
            intro b_fX_sheet_116 b_nX_sheet_116 b_iX_sheetLength_116 b_shl_116 f116_0 f116_1
            have hg1 := hB9.1.2.2.1
            rw [ht] at hg1
            have hg2 := hB9.1.2.2.2
            rw [ht] at hg2
            have hSz := hB9.2
            rw [ht] at hSz
            have p8 := cj_2_0 (WX hX aX kX hT hM fX_ready fX_sheet_116 dX_sheet_116 nX_sheet_116 iX_sheetLength_116 xX_reader xX_solver xX_prover xX_values xX_clauses xX_nets) (WM hM aM kM iM_stands iM_variables iM_rows iM_goals iM_differents iM_cases fM_from fM_to fM_whole fM_ways iM_plainRows fM_plainRow fM_kept fM_goalOver fM_goalUnder fM_goalMax fM_different)
            obtain ⟨hP, hD⟩ := frameG p9 p8 hP hD hk1 hFc (fz_P ht hB9.1.1) hB9.1.2.1
            have hz9 : H.size ≤ s.heap.size + (nX_sheet_116 / 32 - (nX_sheet / 32)) := by (try dsimp only at hg1); omega
            have hn9 : nS s.heap.size H ≤ (2 * nX_sheet_116 - (2 * nX_sheet)) := by rw [hSz.n hS0]; (try dsimp only at hg2); omega
            refine W.tight (cells2 := (nX_sheet_116 / 32 - (nX_sheet / 32))) (slots2 := (2 * nX_sheet_116 - (2 * nX_sheet))) hz9 hn9 ?_
            clear hz9 hn9 hz0 hn0 hS0 hSz hg1 hg2
            refine lv_aload_n hx hb dX11_putGoal_120 rfl (lv_at hl 3 rfl) ?_
            refine lv_iload hx hb dX11_putGoal_121 (lv_at hl 0 rfl) ?_
            refine lv_aload_n hx hb dX11_putGoal_123 rfl (lv_at hl 3 rfl) ?_
            refine va_get (D := (dC, dI)) (ci := 11) (v := .ref (hM 0)) (C := RX11) (T := TX11) (N := 11) hx hb hts iwsMX11_putGoal_in11 hown hK hP 0 rfl rfl 2 (by decide) (hts _ hm_m_X11_putGoal_0) (fun _ h9 => h9) rfl dX11_putGoal_124 ?_
            refine va_get (D := (dC, dI)) (ci := 1) (v := .ref (aM 7)) (C := RX1) (T := TX1) (N := 17) hx hb hts iwsMX11_putGoal_in1 hown hK hP 3 rfl rfl 14 (by decide) (hts _ hm_m_X11_putGoal_3) (fun _ h9 => h9) rfl dX11_putGoal_127 ?_
            refine lv_iload_n hx hb dX11_putGoal_130 rfl (lv_at hl 2 rfl) ?_
            refine va_iald (cA := kM 7) (n := 27) (f := fM_goalUnder) hx hb hK hP 11 9 rfl rfl (vp_iI (Int.le_trans (by decide) (Int.mul_le_mul_of_nonneg_right (b_p1.1) (by decide))) (Int.lt_of_le_of_lt (Int.mul_le_mul_of_nonneg_right (b_p1.2) (by decide)) (by decide)) (by decide)) dX11_putGoal_131 ?_
            refine lv_topi (fun v117 hv117 => ?_)
            clear hv117
            refine W.known (fun hz0 hn0 => ?_)
            have hS0 := hS.1
            have p9 := cj_2_0 (WX hX aX kX hT hM fX_ready fX_sheet_116 dX_sheet_116 nX_sheet_116 iX_sheetLength_116 xX_reader xX_solver xX_prover xX_values xX_clauses xX_nets) (WM hM aM kM iM_stands iM_variables iM_rows iM_goals iM_differents iM_cases fM_from fM_to fM_whole fM_ways iM_plainRows fM_plainRow fM_kept fM_goalOver fM_goalUnder fM_goalMax fM_different)
            have hPc := hP.mem (fun q h => p9.mem_iff.mpr (List.mem_append_left _ h))
            have hDc := (hD.perm p9).left
            have hKc : va_K (dC, dI) vwCl (tX kX) _ := hK.sub [0, 1] rfl
            have hFc := freeG p9 hD hS hA
            refine va_callv (va_runV (As := [.int v92, .int v117]) (rest := []) ⟨hx, hb, hml, hown, hts⟩ (Met.sV (m_X11_putRatio l dC dI hX aX kX hT hM fX_ready fX_sheet_116 dX_sheet_116 nX_sheet_116 iX_sheetLength_116 xX_reader xX_solver xX_prover xX_values xX_clauses xX_nets v92 v117 b_fX_sheet_116 (by first | exact b_nX_sheet_116 | with_reducible assumption | exact ⟨by omega, by omega⟩ | assumption) (b_iX_sheetLength_116) (by first | with_reducible assumption | omega | (rw [iI_t (by omega) (by omega)]; omega) | (have h7 : (0 : Int32).toInt = 0 := (by decide); omega)) H.size) H) (cwV 2 hts gwsMX11_putGoal_3 rfl rfl rfl (by decide +kernel) ⟨by first | decide +kernel | (dsimp only [headSpec] <;> omega), by first | decide +kernel | (dsimp only [headSpec] <;> omega)⟩) ⟨fun a U g mk q => by obtain ⟨q0, qh, q1, qP, qK, qD⟩ := q; exact ⟨q0, qh, q1, qP, va_K.moved (u := U) (U := U.calling g mk a) (Vm.Alike.refl U.vm) qK, qD⟩, va_recv hK hP (ci := 11) (q0 := 0) rfl rfl, fun U hU9 hW => ⟨rfl, hU9, by rw [hU9], by rw [hU9]; exact hPc, va_K.moved hW.alike hKc, hDc.weaken (fun _ _ _ _ => trivial)⟩⟩ rfl rfl hl.1 rfl (lv_room (Nat.le_of_ble_eq_true rfl)) dX11_putGoal_132 ⟨by first | decide +kernel | (dsimp only [headSpec] <;> omega), by first | decide +kernel | (dsimp only [headSpec] <;> omega)⟩) hS (fun q _ h => hFc q h) hFc (fun u t9_ H locs ht hvm hw9 hB9 hz1 hk1 hS => ?_)
            revert u hw9 hB9
            refine fz_p4 ?_
            intro fX_sheet_118 dX_sheet_118 nX_sheet_118 iX_sheetLength_118 hw9 hB9
            try dsimp only at hw9 hB9
            revert hw9
            refine fz_a6 ?_
            intro b_fX_sheet_118 b_nX_sheet_118 b_iX_sheetLength_118 b_shl_118 f118_0 f118_1
            have hg1 := hB9.1.2.2.1
            rw [ht] at hg1
            have hg2 := hB9.1.2.2.2
            rw [ht] at hg2
            have hSz := hB9.2
            rw [ht] at hSz
            have p8 := cj_2_0 (WX hX aX kX hT hM fX_ready fX_sheet_118 dX_sheet_118 nX_sheet_118 iX_sheetLength_118 xX_reader xX_solver xX_prover xX_values xX_clauses xX_nets) (WM hM aM kM iM_stands iM_variables iM_rows iM_goals iM_differents iM_cases fM_from fM_to fM_whole fM_ways iM_plainRows fM_plainRow fM_kept fM_goalOver fM_goalUnder fM_goalMax fM_different)
            obtain ⟨hP, hD⟩ := frameG p9 p8 hP hD hk1 hFc (fz_P ht hB9.1.1) hB9.1.2.1
            have hz9 : H.size ≤ s.heap.size + (nX_sheet_118 / 32 - (nX_sheet / 32)) := by (try dsimp only at hg1); omega
            have hn9 : nS s.heap.size H ≤ (2 * nX_sheet_118 - (2 * nX_sheet)) := by rw [hSz.n hS0]; (try dsimp only at hg2); omega
            refine W.tight (cells2 := (nX_sheet_118 / 32 - (nX_sheet / 32))) (slots2 := (2 * nX_sheet_118 - (2 * nX_sheet))) hz9 hn9 ?_
            clear hz9 hn9 hz0 hn0 hS0 hSz hg1 hg2
            refine lv_goto (tgt := 187) hx hb dX11_putGoal_135 (by decide) ?_
            have hl : lv_has _ _ ([(4, .int v92), (3, .int l3_x35), (2, .int (iI (p1.toInt * 9))), (0, .ref (hX 0)), (1, .int p1)]) := lv_sub hl [0, 1, 2, 3, 4] rfl
            refine W.known (fun hza hna => ?_)
            refine W.widen (k := 1875) (n := 120000) (by omega) (by omega) ?_
            exact join45 _ _ _ _ ⟨fX_sheet_118, dX_sheet_118, nX_sheet_118, iX_sheetLength_118, b_fX_sheet_118, (by first | exact b_nX_sheet_118 | with_reducible assumption | exact ⟨by omega, by omega⟩ | assumption), (b_iX_sheetLength_118), (by first | with_reducible assumption | omega | (rw [iI_t (by omega) (by omega)]; omega) | (have h7 : (0 : Int32).toInt = 0 := (by decide); omega)), (show iX_sheetLength.toInt ≤ iX_sheetLength_118.toInt from by omega), (show nX_sheet ≤ nX_sheet_118 from by omega), ⟨by omega, by omega⟩, rfl, hP, hD, hS, hl⟩
        · intro H locs ls stk
          refine fz_e4 ?_
          intro fX_sheet_j45 dX_sheet_j45 nX_sheet_j45 iX_sheetLength_j45
          refine fz_a12 ?_
          intro b_fX_sheet_j45 b_nX_sheet_j45 b_iX_sheetLength_j45 b_shl_j45 hjx hgm0_j45 hzn9_6 hst9_7 hP hD hS hl
          have hzj := hzn9_6.1
          have hnj := hzn9_6.2
          clear hzn9_6
          subst hst9_7
          refine W.tight (cells2 := (nX_sheet_j45 / 32 - (nX_sheet / 32))) (slots2 := (2 * nX_sheet_j45 - (2 * nX_sheet))) (tg1 hzj hS.1) (tg2 hnj) ?_
          refine lv_aload_n hx hb dX11_putGoal_187 rfl (lv_at hl 3 rfl) ?_
          obtain ⟨qS292, hR292, hSS292⟩ := hE.2.2.2 4 _ rfl
          refine lv_ldcwS hx hb hown hR292 dX11_putGoal_188 ?_
          refine W.known (fun hz0 hn0 => ?_)
          have hS0 := hS.1
          have p9 := cj_2_0 (WX hX aX kX hT hM fX_ready fX_sheet_j45 dX_sheet_j45 nX_sheet_j45 iX_sheetLength_j45 xX_reader xX_solver xX_prover xX_values xX_clauses xX_nets) (WM hM aM kM iM_stands iM_variables iM_rows iM_goals iM_differents iM_cases fM_from fM_to fM_whole fM_ways iM_plainRows fM_plainRow fM_kept fM_goalOver fM_goalUnder fM_goalMax fM_different)
          have hPc := hP.mem (fun q h => p9.mem_iff.mpr (List.mem_append_left _ h))
          have hDc := (hD.perm p9).left
          have hKc : va_K (dC, dI) vwCl (tX kX) _ := hK.sub [0, 1] rfl
          have hFc := freeG p9 hD hS hA
          refine va_callv (va_runV (As := [.ref qS292]) (rest := []) ⟨hx, hb, hml, hown, hts⟩ (Met.sV (m_X11_putText l dC dI hX aX kX hT hM fX_ready fX_sheet_j45 dX_sheet_j45 nX_sheet_j45 iX_sheetLength_j45 xX_reader xX_solver xX_prover xX_values xX_clauses xX_nets qS292 3 (fun j => ([32, 59, 10] : List Int32).getD j 0) b_fX_sheet_j45 (by first | exact b_nX_sheet_j45 | with_reducible assumption | exact ⟨by omega, by omega⟩ | assumption) (by first | exact b_iX_sheetLength_j45 | with_reducible assumption | exact ⟨by omega, by omega⟩ | assumption) (by first | with_reducible assumption | omega | (rw [iI_t (by omega) (by omega)]; omega) | (have h7 : (0 : Int32).toInt = 0 := (by decide); omega)) (by decide) H.size) H) (cwV 1 hts gwsMX11_putGoal_0 rfl rfl rfl (by decide +kernel) ⟨by first | decide +kernel | (dsimp only [headSpec] <;> omega), by first | decide +kernel | (dsimp only [headSpec] <;> omega)⟩) ⟨fun a U g mk q => by obtain ⟨q0, qh, q1, qP, qK, qD, qE⟩ := q; exact ⟨q0, qh, q1, qP, va_K.moved (u := U) (U := U.calling g mk a) (Vm.Alike.refl U.vm) qK, qD, qE.same rfl⟩, va_recv hK hP (ci := 11) (q0 := 0) rfl rfl, fun U hU9 hW => ⟨rfl, hU9, by rw [hU9], by rw [hU9]; exact hPc, va_K.moved hW.alike hKc, hDc.weaken (fun _ _ _ _ => trivial), by rw [hU9]; exact (((hSS292 : (StrE qS292 3 (fun j => ([32, 59, 10] : List Int32).getD j 0)) A s s.heap).kept hS.2.1).narrow (fun q h => hFc q h)).warm hW⟩⟩ rfl rfl hl.1 rfl (lv_room (Nat.le_of_ble_eq_true rfl)) dX11_putGoal_191 ⟨by first | decide +kernel | (dsimp only [headSpec] <;> omega), by first | decide +kernel | (dsimp only [headSpec] <;> omega)⟩) hS (fun q _ h => hFc q h) hFc (fun u t9_ H locs ht hvm hw9 hB9 hz1 hk1 hS => ?_)
          revert u hw9 hB9
          refine fz_p4 ?_
          intro fX_sheet_119 dX_sheet_119 nX_sheet_119 iX_sheetLength_119 hw9 hB9
          try dsimp only at hw9 hB9
          revert hw9
          refine fz_a6 ?_
          intro b_fX_sheet_119 b_nX_sheet_119 b_iX_sheetLength_119 b_shl_119 f119_0 f119_1
          have hg1 := hB9.1.2.2.1
          rw [ht] at hg1
          have hg2 := hB9.1.2.2.2
          rw [ht] at hg2
          have hSz := hB9.2
          rw [ht] at hSz
          have p8 := cj_2_0 (WX hX aX kX hT hM fX_ready fX_sheet_119 dX_sheet_119 nX_sheet_119 iX_sheetLength_119 xX_reader xX_solver xX_prover xX_values xX_clauses xX_nets) (WM hM aM kM iM_stands iM_variables iM_rows iM_goals iM_differents iM_cases fM_from fM_to fM_whole fM_ways iM_plainRows fM_plainRow fM_kept fM_goalOver fM_goalUnder fM_goalMax fM_different)
          obtain ⟨hP, hD⟩ := frameG p9 p8 hP hD hk1 hFc (fz_P ht hB9.1.1) hB9.1.2.1
          have hz9 : H.size ≤ s.heap.size + (nX_sheet_119 / 32 - (nX_sheet / 32)) := by (try dsimp only at hg1); omega
          have hn9 : nS s.heap.size H ≤ (2 * nX_sheet_119 - (2 * nX_sheet)) := by rw [hSz.n hS0]; (try dsimp only at hg2); omega
          refine W.tight (cells2 := (nX_sheet_119 / 32 - (nX_sheet / 32))) (slots2 := (2 * nX_sheet_119 - (2 * nX_sheet))) hz9 hn9 ?_
          clear hz9 hn9 hz0 hn0 hS0 hSz hg1 hg2
          refine W.known (fun hz9 hn9 => ?_)
          refine W.widen (k := 9376) (n := 660000) (by omega) (by omega) ?_
          exact W.vret hx hb hr (fun t9_ ht hW => ⟨⟨(fX_sheet_119, dX_sheet_119, nX_sheet_119, iX_sheetLength_119), rfl, ⟨b_fX_sheet_119, (by (try dsimp only); exact (by first | exact b_nX_sheet_119 | with_reducible assumption | exact ⟨by omega, by omega⟩ | assumption)), b_iX_sheetLength_119, (by (try dsimp only); exact (by first | with_reducible assumption | omega | (rw [iI_t (by omega) (by omega)]; omega) | (have h7 : (0 : Int32).toInt = 0 := (by decide); omega))), (by (try dsimp only); omega), (by (try dsimp only); first | omega | (rw [iI_t (by omega) (by omega)]; omega))⟩, by rw [ht]; exact hP, hD, by rw [ht]; (try dsimp only); omega, by rw [ht]; (try dsimp only); omega⟩, hS.F ht⟩) hS.2.2 dX11_putGoal_194
      · have t_44 : ¬ l4_x35.toInt ≥ iM_variables.toInt := toI_nge c_44 rfl rfl
        refine lv_aload_n hx hb dX11_putGoal_47 rfl (lv_at hl 3 rfl) ?_
        refine va_get (D := (dC, dI)) (ci := 11) (v := .ref (hM 0)) (C := RX11) (T := TX11) (N := 11) hx hb hts iwsMX11_putGoal_in11 hown hK hP 0 rfl rfl 2 (by decide) (hts _ hm_m_X11_putGoal_0) (fun _ h9 => h9) rfl dX11_putGoal_48 ?_
        refine va_get (D := (dC, dI)) (ci := 1) (v := .ref (aM 6)) (C := RX1) (T := TX1) (N := 17) hx hb hts iwsMX11_putGoal_in1 hown hK hP 3 rfl rfl 13 (by decide) (hts _ hm_m_X11_putGoal_2) (fun _ h9 => h9) rfl dX11_putGoal_51 ?_
        refine lv_iload_n hx hb dX11_putGoal_54 rfl (lv_at hl 2 rfl) ?_
        refine lv_iload hx hb dX11_putGoal_55 (lv_at hl 0 rfl) ?_
        refine lv_iadd hx hb dX11_putGoal_57 ?_
        refine lv_topi (fun y120 hy120 => ?_)
        obtain rfl : (iI ((p1.toInt * 9) + l4_x35.toInt)) = y120 := (hy120.trans (iI_add2 rfl (iI_of _))).symm
        refine lv_iconst (v := 1) hx hb dX11_putGoal_58 (by decide) ?_
        refine lv_iadd hx hb dX11_putGoal_59 ?_
        refine lv_topi (fun y121 hy121 => ?_)
        obtain rfl : (iI (((p1.toInt * 9) + l4_x35.toInt) + 1)) = y121 := (hy121.trans (iI_add2 rfl (by decide : (1 : Int32) = iI 1))).symm
        refine va_iald (cA := kM 6) (n := 27) (f := fM_goalOver) hx hb hK hP 10 8 rfl rfl (vp_iI (Int.le_trans (by decide) (Int.add_le_add (Int.add_le_add (Int.mul_le_mul_of_nonneg_right (b_p1.1) (by decide)) (b_l4_x35.1)) (Int.le_refl _))) (by omega) (by decide)) dX11_putGoal_60 ?_
        refine lv_topi (fun v122 hv122 => ?_)
        clear hv122
        refine lv_istore hx hb dX11_putGoal_61 hl (by decide) rfl (fun ls (hl : lv_has ls _ ([(5, .int v122), (4, .int l4_x35), (3, .int l3_x35), (2, .int (iI (p1.toInt * 9))), (0, .ref (hX 0)), (1, .int p1)])) => ?_)
        refine lv_iload hx hb dX11_putGoal_63 (lv_at hl 0 rfl) ?_
        refine W.known (fun hzk hnk => ?_)
        refine W.widen (k := 1875) (n := 120000) (by omega) (by omega) ?_
        refine W.cut (pc := 93) (fun H locs ls stk => ∃ (fX_sheet_j48 : Nat → Int32) (dX_sheet_j48 : Nat) (nX_sheet_j48 : Nat) (iX_sheetLength_j48 : Int32) (l3_j48 : Int32), (∀ q : Nat, (-128) ≤ (fX_sheet_j48 q).toInt ∧ (fX_sheet_j48 q).toInt ≤ 127) ∧ (64 ≤ nX_sheet_j48 ∧ nX_sheet_j48 ≤ 60000) ∧ (0 ≤ iX_sheetLength_j48.toInt ∧ iX_sheetLength_j48.toInt ≤ 30000) ∧ (0 ≤ l3_j48.toInt ∧ l3_j48.toInt ≤ 1) ∧ (iX_sheetLength_j48.toInt ≤ ((nX_sheet_j48 : Nat) : Int)) ∧ (iX_sheetLength.toInt ≤ iX_sheetLength_j48.toInt) ∧ (nX_sheet ≤ nX_sheet_j48) ∧ (H.size + (nX_sheet / 32) ≤ s.heap.size + (nX_sheet_j48 / 32) ∧ nS s.heap.size H + (2 * nX_sheet) ≤ (2 * nX_sheet_j48)) ∧  stk = [] ∧ va_P (dC, dI) vwCl (WX hX aX kX hT hM fX_ready fX_sheet_j48 dX_sheet_j48 nX_sheet_j48 iX_sheetLength_j48 xX_reader xX_solver xX_prover xX_values xX_clauses xX_nets ++ (WM hM aM kM iM_stands iM_variables iM_rows iM_goals iM_differents iM_cases fM_from fM_to fM_whole fM_ways iM_plainRows fM_plainRow fM_kept fM_goalOver fM_goalUnder fM_goalMax fM_different)) H ∧ va_D A (WX hX aX kX hT hM fX_ready fX_sheet_j48 dX_sheet_j48 nX_sheet_j48 iX_sheetLength_j48 xX_reader xX_solver xX_prover xX_values xX_clauses xX_nets ++ (WM hM aM kM iM_stands iM_variables iM_rows iM_goals iM_differents iM_cases fM_from fM_to fM_whole fM_ways iM_plainRows fM_plainRow fM_kept fM_goalOver fM_goalUnder fM_goalMax fM_different)) ∧ va_S A s.heap H locs ∧ lv_has ls 6 [(5, .int v122), (4, .int l4_x35), (3, .int l3_j48), (2, .int (iI (p1.toInt * 9))), (0, .ref (hX 0)), (1, .int p1)]) (fun join48 => ?_) ?_
        · refine W.tight (cells2 := (nX_sheet_x35 / 32 - (nX_sheet / 32))) (slots2 := (2 * nX_sheet_x35 - (2 * nX_sheet))) hzk hnk ?_
          refine lv_if_eq (tgt := 93) hx hb dX11_putGoal_65 (by decide) (fun c_65 => ?_) (fun c_65 => ?_)
          · have t_65 : v122.toInt = 0 := toI_eq c_65 rfl (by decide : (0 : Int32).toInt = 0)
            have hl : lv_has _ _ ([(5, .int v122), (4, .int l4_x35), (3, .int l3_x35), (2, .int (iI (p1.toInt * 9))), (0, .ref (hX 0)), (1, .int p1)]) := lv_sub hl [0, 1, 2, 3, 4, 5] rfl
            refine W.known (fun hza hna => ?_)
            refine W.widen (k := 1875) (n := 120000) (by omega) (by omega) ?_
            exact join48 _ _ _ _ ⟨fX_sheet_x35, dX_sheet_x35, nX_sheet_x35, iX_sheetLength_x35, l3_x35, b_fX_sheet_x35, (by first | exact b_nX_sheet_x35 | with_reducible assumption | exact ⟨by omega, by omega⟩ | assumption), (b_iX_sheetLength_x35), (b_l3_x35), (by first | with_reducible assumption | omega | (rw [iI_t (by omega) (by omega)]; omega) | (have h7 : (0 : Int32).toInt = 0 := (by decide); omega)), (show iX_sheetLength.toInt ≤ iX_sheetLength_x35.toInt from by omega), (show nX_sheet ≤ nX_sheet_x35 from by omega), ⟨by omega, by omega⟩, rfl, hP, hD, hS, hl⟩
          · have t_65 : ¬ v122.toInt = 0 := toI_neq c_65 rfl (by decide : (0 : Int32).toInt = 0)
            refine lv_aload_n hx hb dX11_putGoal_68 rfl (lv_at hl 4 rfl) ?_
            refine lv_iload hx hb dX11_putGoal_69 (lv_at hl 0 rfl) ?_
            refine lv_aload_n hx hb dX11_putGoal_71 rfl (lv_at hl 4 rfl) ?_
            refine va_get (D := (dC, dI)) (ci := 11) (v := .ref (hM 0)) (C := RX11) (T := TX11) (N := 11) hx hb hts iwsMX11_putGoal_in11 hown hK hP 0 rfl rfl 2 (by decide) (hts _ hm_m_X11_putGoal_0) (fun _ h9 => h9) rfl dX11_putGoal_72 ?_
            refine va_get (D := (dC, dI)) (ci := 1) (v := .ref (aM 7)) (C := RX1) (T := TX1) (N := 17) hx hb hts iwsMX11_putGoal_in1 hown hK hP 3 rfl rfl 14 (by decide) (hts _ hm_m_X11_putGoal_3) (fun _ h9 => h9) rfl dX11_putGoal_75 ?_
            refine lv_iload_n hx hb dX11_putGoal_78 rfl (lv_at hl 3 rfl) ?_
            refine lv_iload hx hb dX11_putGoal_79 (lv_at hl 1 rfl) ?_
            refine lv_iadd hx hb dX11_putGoal_81 ?_
            refine lv_topi (fun y127 hy127 => ?_)
            obtain rfl : (iI ((p1.toInt * 9) + l4_x35.toInt)) = y127 := (hy127.trans (iI_add2 rfl (iI_of _))).symm
            refine lv_iconst (v := 1) hx hb dX11_putGoal_82 (by decide) ?_
            refine lv_iadd hx hb dX11_putGoal_83 ?_
            refine lv_topi (fun y128 hy128 => ?_)
            obtain rfl : (iI (((p1.toInt * 9) + l4_x35.toInt) + 1)) = y128 := (hy128.trans (iI_add2 rfl (by decide : (1 : Int32) = iI 1))).symm
            refine va_iald (cA := kM 7) (n := 27) (f := fM_goalUnder) hx hb hK hP 11 9 rfl rfl (vp_iI (Int.le_trans (by decide) (Int.add_le_add (Int.add_le_add (Int.mul_le_mul_of_nonneg_right (b_p1.1) (by decide)) (b_l4_x35.1)) (Int.le_refl _))) (by omega) (by decide)) dX11_putGoal_84 ?_
            refine lv_topi (fun v129 hv129 => ?_)
            clear hv129
            refine lv_iload hx hb dX11_putGoal_85 (lv_at hl 1 rfl) ?_
            refine lv_iload_n hx hb dX11_putGoal_87 rfl (lv_at hl 2 rfl) ?_
            refine W.known (fun hz0 hn0 => ?_)
            have hS0 := hS.1
            have p9 := cj_2_0 (WX hX aX kX hT hM fX_ready fX_sheet_x35 dX_sheet_x35 nX_sheet_x35 iX_sheetLength_x35 xX_reader xX_solver xX_prover xX_values xX_clauses xX_nets) (WM hM aM kM iM_stands iM_variables iM_rows iM_goals iM_differents iM_cases fM_from fM_to fM_whole fM_ways iM_plainRows fM_plainRow fM_kept fM_goalOver fM_goalUnder fM_goalMax fM_different)
            have hPc := hP.mem (fun q h => p9.mem_iff.mpr (List.mem_append_left _ h))
            have hDc := (hD.perm p9).left
            have hKc : va_K (dC, dI) vwCl (tX kX) _ := hK.sub [0, 1] rfl
            have hFc := freeG p9 hD hS hA
            refine va_callv (va_runV (As := [.int v122, .int v129, .int l4_x35, .int l3_x35]) (rest := []) ⟨hx, hb, hml, hown, hts⟩ (Met.sV (m_X11_putTimes l hst dC dI hX aX kX hT hM fX_ready fX_sheet_x35 dX_sheet_x35 nX_sheet_x35 iX_sheetLength_x35 xX_reader xX_solver xX_prover xX_values xX_clauses xX_nets v122 v129 l4_x35 l3_x35 b_fX_sheet_x35 (by first | exact b_nX_sheet_x35 | with_reducible assumption | exact ⟨by omega, by omega⟩ | assumption) (b_iX_sheetLength_x35) (by first | with_reducible assumption | omega | (rw [iI_t (by omega) (by omega)]; omega) | (have h7 : (0 : Int32).toInt = 0 := (by decide); omega)) H.size) H) (cwV 4 hts gwsMX11_putGoal_1 rfl rfl rfl (by decide +kernel) ⟨by first | decide +kernel | (dsimp only [headSpec] <;> omega), by first | decide +kernel | (dsimp only [headSpec] <;> omega)⟩) ⟨fun a U g mk q => by obtain ⟨q0, qh, q1, qP, qK, qD, qE⟩ := q; exact ⟨q0, qh, q1, qP, va_K.moved (u := U) (U := U.calling g mk a) (Vm.Alike.refl U.vm) qK, qD, qE.call⟩, va_recv hK hP (ci := 11) (q0 := 0) rfl rfl, fun U hU9 hW => ⟨rfl, hU9, by rw [hU9], by rw [hU9]; exact hPc, va_K.moved hW.alike hKc, hDc.weaken (fun _ _ _ _ => trivial), by rw [hU9]; exact (((hE : CE A s s.heap).kept hS.2.1).narrow (fun q h => hFc q h)).warm hW⟩⟩ rfl rfl hl.1 rfl (lv_room (Nat.le_of_ble_eq_true rfl)) dX11_putGoal_88 ⟨by first | decide +kernel | (dsimp only [headSpec] <;> omega), by first | decide +kernel | (dsimp only [headSpec] <;> omega)⟩) hS (fun q _ h => hFc q h) hFc (fun u t9_ H locs ht hvm hw9 hB9 hz1 hk1 hS => ?_)
            revert u hw9 hB9
            refine fz_p4 ?_
            intro fX_sheet_130 dX_sheet_130 nX_sheet_130 iX_sheetLength_130 hw9 hB9
            try dsimp only at hw9 hB9
            revert hw9
            refine fz_a6 ?_
            intro b_fX_sheet_130 b_nX_sheet_130 b_iX_sheetLength_130 b_shl_130 f130_0 f130_1
            have hg1 := hB9.1.2.2.1
            rw [ht] at hg1
            have hg2 := hB9.1.2.2.2
            rw [ht] at hg2
            have hSz := hB9.2
            rw [ht] at hSz
            have p8 := cj_2_0 (WX hX aX kX hT hM fX_ready fX_sheet_130 dX_sheet_130 nX_sheet_130 iX_sheetLength_130 xX_reader xX_solver xX_prover xX_values xX_clauses xX_nets) (WM hM aM kM iM_stands iM_variables iM_rows iM_goals iM_differents iM_cases fM_from fM_to fM_whole fM_ways iM_plainRows fM_plainRow fM_kept fM_goalOver fM_goalUnder fM_goalMax fM_different)
            obtain ⟨hP, hD⟩ := frameG p9 p8 hP hD hk1 hFc (fz_P ht hB9.1.1) hB9.1.2.1
            have hz9 : H.size ≤ s.heap.size + (nX_sheet_130 / 32 - (nX_sheet / 32)) := by (try dsimp only at hg1); omega
            have hn9 : nS s.heap.size H ≤ (2 * nX_sheet_130 - (2 * nX_sheet)) := by rw [hSz.n hS0]; (try dsimp only at hg2); omega
            refine W.tight (cells2 := (nX_sheet_130 / 32 - (nX_sheet / 32))) (slots2 := (2 * nX_sheet_130 - (2 * nX_sheet))) hz9 hn9 ?_
            clear hz9 hn9 hz0 hn0 hS0 hSz hg1 hg2
            refine lv_iconst (v := 0) hx hb dX11_putGoal_91 (by decide) ?_
            refine lv_istore_n hx hb dX11_putGoal_92 rfl hl (by decide) rfl (fun ls (hl : lv_has ls _ ([(3, .int 0), (5, .int v122), (4, .int l4_x35), (2, .int (iI (p1.toInt * 9))), (0, .ref (hX 0)), (1, .int p1)])) => ?_)
            have hl : lv_has _ _ ([(5, .int v122), (4, .int l4_x35), (3, .int 0), (2, .int (iI (p1.toInt * 9))), (0, .ref (hX 0)), (1, .int p1)]) := lv_sub hl [1, 2, 0, 3, 4, 5] rfl
            refine W.known (fun hza hna => ?_)
            refine W.widen (k := 1875) (n := 120000) (by omega) (by omega) ?_
            exact join48 _ _ _ _ ⟨fX_sheet_130, dX_sheet_130, nX_sheet_130, iX_sheetLength_130, 0, b_fX_sheet_130, (by first | exact b_nX_sheet_130 | with_reducible assumption | exact ⟨by omega, by omega⟩ | assumption), (b_iX_sheetLength_130), (show 0 ≤ (0 : Int32).toInt ∧ (0 : Int32).toInt ≤ 1 from by decide), (by first | with_reducible assumption | omega | (rw [iI_t (by omega) (by omega)]; omega) | (have h7 : (0 : Int32).toInt = 0 := (by decide); omega)), (show iX_sheetLength.toInt ≤ iX_sheetLength_130.toInt from by omega), (show nX_sheet ≤ nX_sheet_130 from by omega), ⟨by omega, by omega⟩, rfl, hP, hD, hS, hl⟩
        · intro H locs ls stk
          refine fz_e5 ?_
          intro fX_sheet_j48 dX_sheet_j48 nX_sheet_j48 iX_sheetLength_j48 l3_j48
          refine fz_a13 ?_
          intro b_fX_sheet_j48 b_nX_sheet_j48 b_iX_sheetLength_j48 b_l3_j48 b_shl_j48 hjx hgm0_j48 hzn9_7 hst9_8 hP hD hS hl
          have hzj := hzn9_7.1
          have hnj := hzn9_7.2
          clear hzn9_7
          subst hst9_8
          refine W.tight (cells2 := (nX_sheet_j48 / 32 - (nX_sheet / 32))) (slots2 := (2 * nX_sheet_j48 - (2 * nX_sheet))) (tg1 hzj hS.1) (tg2 hnj) ?_
          refine lv_iinc (v := (iI (l4_x35.toInt + 1))) hx hb dX11_putGoal_93 hl (k := 1) rfl (iI_add2 (iI_of _) (by decide : (1 : Int32) = iI 1)) (by decide) rfl (fun ls (hl : lv_has ls _ ([(4, .int (iI (l4_x35.toInt + 1))), (5, .int v122), (3, .int l3_j48), (2, .int (iI (p1.toInt * 9))), (0, .ref (hX 0)), (1, .int p1)])) => ?_)
          refine lv_goto (tgt := 35) hx hb dX11_putGoal_96 (by decide) ?_
          have hl : lv_has _ _ ([(4, .int (iI (l4_x35.toInt + 1))), (3, .int l3_j48), (2, .int (iI (p1.toInt * 9))), (0, .ref (hX 0)), (1, .int p1)]) := lv_sub hl [0, 2, 3, 4, 5] rfl
          exact ihx35 fX_sheet_j48 dX_sheet_j48 nX_sheet_j48 iX_sheetLength_j48 (iI (l4_x35.toInt + 1)) l3_j48 _ _ _ b_fX_sheet_j48 (by first | exact b_nX_sheet_j48 | with_reducible assumption | exact ⟨by omega, by omega⟩ | assumption) (b_iX_sheetLength_j48) (iI_rng (Int.le_trans (by decide) (Int.add_le_add (b_l4_x35.1) (Int.le_refl _))) (by omega) (by decide) (by decide)) (b_l3_j48) (by first | with_reducible assumption | omega | (rw [iI_t (by omega) (by omega)]; omega) | (have h7 : (0 : Int32).toInt = 0 := (by decide); omega)) (show iX_sheetLength.toInt ≤ iX_sheetLength_j48.toInt from by omega) (show nX_sheet ≤ nX_sheet_j48 from by omega) (by have e9 : ((iI (l4_x35.toInt + 1))).toInt = (l4_x35.toInt + 1) := (iI_t (Int.le_trans (by decide) (Int.add_le_add (b_l4_x35.1) (Int.le_refl _))) (Int.le_trans (Int.add_le_add (b_l4_x35.2) (Int.le_refl _)) (by decide))); omega) hP hD hS hl
  · have t_10 : ¬ v1.toInt = 0 := toI_neq c_10 rfl (by decide : (0 : Int32).toInt = 0)
    obtain ⟨qS329, hR329, hSS329⟩ := hE.2.2.2 18 _ rfl
    refine lv_ldcwS hx hb hown hR329 dX11_putGoal_13 ?_
    refine lv_goto (tgt := 22) hx hb dX11_putGoal_16 (by decide) ?_
    refine W.known (fun hz0 hn0 => ?_)
    have hS0 := hS.1
    have p9 := cj_2_0 (WX hX aX kX hT hM fX_ready fX_sheet dX_sheet nX_sheet iX_sheetLength xX_reader xX_solver xX_prover xX_values xX_clauses xX_nets) (WM hM aM kM iM_stands iM_variables iM_rows iM_goals iM_differents iM_cases fM_from fM_to fM_whole fM_ways iM_plainRows fM_plainRow fM_kept fM_goalOver fM_goalUnder fM_goalMax fM_different)
    have hPc := hP.mem (fun q h => p9.mem_iff.mpr (List.mem_append_left _ h))
    have hDc := (hD.perm p9).left
    have hKc : va_K (dC, dI) vwCl (tX kX) _ := hK.sub [0, 1] rfl
    have hFc := freeG p9 hD hS hA
    refine va_callv (va_runV (As := [.ref qS329]) (rest := []) ⟨hx, hb, hml, hown, hts⟩ (Met.sV (m_X11_putText l dC dI hX aX kX hT hM fX_ready fX_sheet dX_sheet nX_sheet iX_sheetLength xX_reader xX_solver xX_prover xX_values xX_clauses xX_nets qS329 3 (fun j => ([109, 97, 120] : List Int32).getD j 0) b_fX_sheet (by first | exact b_nX_sheet | with_reducible assumption | exact ⟨by omega, by omega⟩ | assumption) (b_iX_sheetLength) (by first | with_reducible assumption | omega | (rw [iI_t (by omega) (by omega)]; omega) | (have h7 : (0 : Int32).toInt = 0 := (by decide); omega)) (by decide) s.heap.size) s.heap) (cwV 1 hts gwsMX11_putGoal_0 rfl rfl rfl (by decide +kernel) ⟨by first | decide +kernel | (dsimp only [headSpec] <;> omega), by first | decide +kernel | (dsimp only [headSpec] <;> omega)⟩) ⟨fun a U g mk q => by obtain ⟨q0, qh, q1, qP, qK, qD, qE⟩ := q; exact ⟨q0, qh, q1, qP, va_K.moved (u := U) (U := U.calling g mk a) (Vm.Alike.refl U.vm) qK, qD, qE.same rfl⟩, va_recv hK hP (ci := 11) (q0 := 0) rfl rfl, fun U hU9 hW => ⟨rfl, hU9, by rw [hU9], by rw [hU9]; exact hPc, va_K.moved hW.alike hKc, hDc.weaken (fun _ _ _ _ => trivial), by rw [hU9]; exact (((hSS329 : (StrE qS329 3 (fun j => ([109, 97, 120] : List Int32).getD j 0)) A s s.heap).kept hS.2.1).narrow (fun q h => hFc q h)).warm hW⟩⟩ rfl rfl hl.1 rfl (lv_room (Nat.le_of_ble_eq_true rfl)) dX11_putGoal_22 ⟨by first | decide +kernel | (dsimp only [headSpec] <;> omega), by first | decide +kernel | (dsimp only [headSpec] <;> omega)⟩) hS (fun q _ h => hFc q h) hFc (fun u t9_ H locs ht hvm hw9 hB9 hz1 hk1 hS => ?_)
    revert u hw9 hB9
    refine fz_p4 ?_
    intro fX_sheet_131 dX_sheet_131 nX_sheet_131 iX_sheetLength_131 hw9 hB9
    try dsimp only at hw9 hB9
    revert hw9
    refine fz_a6 ?_
    intro b_fX_sheet_131 b_nX_sheet_131 b_iX_sheetLength_131 b_shl_131 f131_0 f131_1
    have hg1 := hB9.1.2.2.1
    rw [ht] at hg1
    have hg2 := hB9.1.2.2.2
    rw [ht] at hg2
    have hSz := hB9.2
    rw [ht] at hSz
    have p8 := cj_2_0 (WX hX aX kX hT hM fX_ready fX_sheet_131 dX_sheet_131 nX_sheet_131 iX_sheetLength_131 xX_reader xX_solver xX_prover xX_values xX_clauses xX_nets) (WM hM aM kM iM_stands iM_variables iM_rows iM_goals iM_differents iM_cases fM_from fM_to fM_whole fM_ways iM_plainRows fM_plainRow fM_kept fM_goalOver fM_goalUnder fM_goalMax fM_different)
    obtain ⟨hP, hD⟩ := frameG p9 p8 hP hD hk1 hFc (fz_P ht hB9.1.1) hB9.1.2.1
    have hz9 : H.size ≤ s.heap.size + (nX_sheet_131 / 32 - (nX_sheet / 32)) := by (try dsimp only at hg1); omega
    have hn9 : nS s.heap.size H ≤ (2 * nX_sheet_131 - (2 * nX_sheet)) := by rw [hSz.n hS0]; (try dsimp only at hg2); omega
    refine W.tight (cells2 := (nX_sheet_131 / 32 - (nX_sheet / 32))) (slots2 := (2 * nX_sheet_131 - (2 * nX_sheet))) hz9 hn9 ?_
    clear hz9 hn9 hz0 hn0 hS0 hSz hg1 hg2
    refine lv_iload_n hx hb dX11_putGoal_25 rfl (lv_at hl 1 rfl) ?_
    refine lv_bipush (v := 9) hx hb dX11_putGoal_26 (by decide) ?_
    refine lv_imul hx hb dX11_putGoal_28 ?_
    refine lv_topi (fun y132 hy132 => ?_)
    obtain rfl : (iI (p1.toInt * 9)) = y132 := (hy132.trans (iI_mul2 (iI_of _) (by decide : (9 : Int32) = iI 9))).symm
    refine lv_istore_n hx hb dX11_putGoal_29 rfl hl (by decide) rfl (fun ls (hl : lv_has ls _ ([(2, .int (iI (p1.toInt * 9))), (0, .ref (hX 0)), (1, .int p1)])) => ?_)
    refine lv_iconst (v := 1) hx hb dX11_putGoal_30 (by decide) ?_
    refine lv_istore_n hx hb dX11_putGoal_31 rfl hl (by decide) rfl (fun ls (hl : lv_has ls _ ([(3, .int 1), (2, .int (iI (p1.toInt * 9))), (0, .ref (hX 0)), (1, .int p1)])) => ?_)
    refine lv_iconst (v := 0) hx hb dX11_putGoal_32 (by decide) ?_
    refine lv_istore hx hb dX11_putGoal_33 hl (by decide) rfl (fun ls (hl : lv_has ls _ ([(4, .int 0), (3, .int 1), (2, .int (iI (p1.toInt * 9))), (0, .ref (hX 0)), (1, .int p1)])) => ?_)
    have hl : lv_has _ _ ([(4, .int 0), (3, .int 1), (2, .int (iI (p1.toInt * 9))), (0, .ref (hX 0)), (1, .int p1)]) := lv_sub hl [0, 1, 2, 3, 4] rfl
    refine (fun (loop : ∀ (n9 : Nat) (fX_sheet_x35_1 : Nat → Int32) (dX_sheet_x35_1 : Nat) (nX_sheet_x35_1 : Nat) (iX_sheetLength_x35_1 : Int32) (l4_x35_1 : Int32) (l3_x35_1 : Int32) (H : Heap) (locs : List Loc) (ls : Array Slot), (∀ q : Nat, (-128) ≤ (fX_sheet_x35_1 q).toInt ∧ (fX_sheet_x35_1 q).toInt ≤ 127) → (64 ≤ nX_sheet_x35_1 ∧ nX_sheet_x35_1 ≤ 60000) → (0 ≤ iX_sheetLength_x35_1.toInt ∧ iX_sheetLength_x35_1.toInt ≤ 30000) → (0 ≤ l4_x35_1.toInt ∧ l4_x35_1.toInt ≤ 8) → (0 ≤ l3_x35_1.toInt ∧ l3_x35_1.toInt ≤ 1) → (iX_sheetLength_x35_1.toInt ≤ ((nX_sheet_x35_1 : Nat) : Int)) → (iX_sheetLength.toInt ≤ iX_sheetLength_x35_1.toInt) → (nX_sheet ≤ nX_sheet_x35_1) → (8 - l4_x35_1.toInt < ((n9 : Nat) : Int)) → va_P (dC, dI) vwCl (WX hX aX kX hT hM fX_ready fX_sheet_x35_1 dX_sheet_x35_1 nX_sheet_x35_1 iX_sheetLength_x35_1 xX_reader xX_solver xX_prover xX_values xX_clauses xX_nets ++ (WM hM aM kM iM_stands iM_variables iM_rows iM_goals iM_differents iM_cases fM_from fM_to fM_whole fM_ways iM_plainRows fM_plainRow fM_kept fM_goalOver fM_goalUnder fM_goalMax fM_different)) H → va_D A (WX hX aX kX hT hM fX_ready fX_sheet_x35_1 dX_sheet_x35_1 nX_sheet_x35_1 iX_sheetLength_x35_1 xX_reader xX_solver xX_prover xX_values xX_clauses xX_nets ++ (WM hM aM kM iM_stands iM_variables iM_rows iM_goals iM_differents iM_cases fM_from fM_to fM_whole fM_ways iM_plainRows fM_plainRow fM_kept fM_goalOver fM_goalUnder fM_goalMax fM_different)) → va_S A s.heap H locs → lv_has ls 6 [(4, .int l4_x35_1), (3, .int l3_x35_1), (2, .int (iI (p1.toInt * 9))), (0, .ref (hX 0)), (1, .int p1)] → W p l e _ s m _ below meth c H locs (nX_sheet_x35_1 / 32 - (nX_sheet / 32)) (2 * nX_sheet_x35_1 - (2 * nX_sheet)) _ (F0 m 35 ls [])) => loop (9) fX_sheet_131 dX_sheet_131 nX_sheet_131 iX_sheetLength_131 0 1 _ _ _ b_fX_sheet_131 (by first | exact b_nX_sheet_131 | with_reducible assumption | exact ⟨by omega, by omega⟩ | assumption) (b_iX_sheetLength_131) (show 0 ≤ (0 : Int32).toInt ∧ (0 : Int32).toInt ≤ 8 from by decide) (show 0 ≤ (1 : Int32).toInt ∧ (1 : Int32).toInt ≤ 1 from by decide) (by first | with_reducible assumption | omega | (rw [iI_t (by omega) (by omega)]; omega) | (have h7 : (0 : Int32).toInt = 0 := (by decide); omega)) (show iX_sheetLength.toInt ≤ iX_sheetLength_131.toInt from by omega) (show nX_sheet ≤ nX_sheet_131 from by omega) ((by have e9 : (0 : Int32).toInt = 0 := (by decide : (0 : Int32).toInt = 0); omega)) hP hD hS hl) ?_
    intro n9
    induction n9 with
    | zero => intro fX_sheet_x35_1 dX_sheet_x35_1 nX_sheet_x35_1 iX_sheetLength_x35_1 l4_x35_1 l3_x35_1 H locs ls b_fX_sheet_x35_1 b_nX_sheet_x35_1 b_iX_sheetLength_x35_1 b_l4_x35_1 b_l3_x35_1 b_shl_x35_1 hlx hgm0_x35_1 hf9; exact False.elim (by omega)
    | succ n9 ihx35_1 =>
      intro fX_sheet_x35_1 dX_sheet_x35_1 nX_sheet_x35_1 iX_sheetLength_x35_1 l4_x35_1 l3_x35_1 H locs ls b_fX_sheet_x35_1 b_nX_sheet_x35_1 b_iX_sheetLength_x35_1 b_l4_x35_1 b_l3_x35_1 b_shl_x35_1 hlx hgm0_x35_1 hfx35_1 hP hD hS hl
      refine lv_iload hx hb dX11_putGoal_35 (lv_at hl 0 rfl) ?_
      refine lv_aload_n hx hb dX11_putGoal_37 rfl (lv_at hl 3 rfl) ?_
      refine va_get (D := (dC, dI)) (ci := 11) (v := .ref (hM 0)) (C := RX11) (T := TX11) (N := 11) hx hb hts iwsMX11_putGoal_in11 hown hK hP 0 rfl rfl 2 (by decide) (hts _ hm_m_X11_putGoal_0) (fun _ h9 => h9) rfl dX11_putGoal_38 ?_
      refine va_get (D := (dC, dI)) (ci := 1) (v := .int iM_variables) (C := RX1) (T := TX1) (N := 17) hx hb hts iwsMX11_putGoal_in1 hown hK hP 3 rfl rfl 1 (by decide) (hts _ hm_m_X11_putGoal_1) (fun _ h9 => h9) rfl dX11_putGoal_41 ?_
      refine lv_icmp_ge (tgt := 99) hx hb dX11_putGoal_44 (by decide) (fun c_44 => ?_) (fun c_44 => ?_)
      · have t_44 : l4_x35_1.toInt ≥ iM_variables.toInt := toI_ge c_44 rfl rfl
        refine lv_aload_n hx hb dX11_putGoal_99 rfl (lv_at hl 3 rfl) ?_
        refine va_get (D := (dC, dI)) (ci := 11) (v := .ref (hM 0)) (C := RX11) (T := TX11) (N := 11) hx hb hts iwsMX11_putGoal_in11 hown hK hP 0 rfl rfl 2 (by decide) (hts _ hm_m_X11_putGoal_0) (fun _ h9 => h9) rfl dX11_putGoal_100 ?_
        refine va_get (D := (dC, dI)) (ci := 1) (v := .ref (aM 6)) (C := RX1) (T := TX1) (N := 17) hx hb hts iwsMX11_putGoal_in1 hown hK hP 3 rfl rfl 13 (by decide) (hts _ hm_m_X11_putGoal_2) (fun _ h9 => h9) rfl dX11_putGoal_103 ?_
        refine lv_iload_n hx hb dX11_putGoal_106 rfl (lv_at hl 2 rfl) ?_
        refine va_iald (cA := kM 6) (n := 27) (f := fM_goalOver) hx hb hK hP 10 8 rfl rfl (vp_iI (Int.le_trans (by decide) (Int.mul_le_mul_of_nonneg_right (b_p1.1) (by decide))) (Int.lt_of_le_of_lt (Int.mul_le_mul_of_nonneg_right (b_p1.2) (by decide)) (by decide)) (by decide)) dX11_putGoal_107 ?_
        refine lv_topi (fun v221 hv221 => ?_)
        clear hv221
        refine lv_istore hx hb dX11_putGoal_108 hl (by decide) rfl (fun ls (hl : lv_has ls _ ([(4, .int v221), (3, .int l3_x35_1), (2, .int (iI (p1.toInt * 9))), (0, .ref (hX 0)), (1, .int p1)])) => ?_)
        refine lv_iload_n hx hb dX11_putGoal_110 rfl (lv_at hl 1 rfl) ?_
        refine W.known (fun hzk hnk => ?_)
        refine W.widen (k := 1875) (n := 120000) (by omega) (by omega) ?_
        refine W.cut (pc := 187) (fun H locs ls stk => ∃ (fX_sheet_j61 : Nat → Int32) (dX_sheet_j61 : Nat) (nX_sheet_j61 : Nat) (iX_sheetLength_j61 : Int32), (∀ q : Nat, (-128) ≤ (fX_sheet_j61 q).toInt ∧ (fX_sheet_j61 q).toInt ≤ 127) ∧ (64 ≤ nX_sheet_j61 ∧ nX_sheet_j61 ≤ 60000) ∧ (0 ≤ iX_sheetLength_j61.toInt ∧ iX_sheetLength_j61.toInt ≤ 30000) ∧ (iX_sheetLength_j61.toInt ≤ ((nX_sheet_j61 : Nat) : Int)) ∧ (iX_sheetLength.toInt ≤ iX_sheetLength_j61.toInt) ∧ (nX_sheet ≤ nX_sheet_j61) ∧ (H.size + (nX_sheet / 32) ≤ s.heap.size + (nX_sheet_j61 / 32) ∧ nS s.heap.size H + (2 * nX_sheet) ≤ (2 * nX_sheet_j61)) ∧  stk = [] ∧ va_P (dC, dI) vwCl (WX hX aX kX hT hM fX_ready fX_sheet_j61 dX_sheet_j61 nX_sheet_j61 iX_sheetLength_j61 xX_reader xX_solver xX_prover xX_values xX_clauses xX_nets ++ (WM hM aM kM iM_stands iM_variables iM_rows iM_goals iM_differents iM_cases fM_from fM_to fM_whole fM_ways iM_plainRows fM_plainRow fM_kept fM_goalOver fM_goalUnder fM_goalMax fM_different)) H ∧ va_D A (WX hX aX kX hT hM fX_ready fX_sheet_j61 dX_sheet_j61 nX_sheet_j61 iX_sheetLength_j61 xX_reader xX_solver xX_prover xX_values xX_clauses xX_nets ++ (WM hM aM kM iM_stands iM_variables iM_rows iM_goals iM_differents iM_cases fM_from fM_to fM_whole fM_ways iM_plainRows fM_plainRow fM_kept fM_goalOver fM_goalUnder fM_goalMax fM_different)) ∧ va_S A s.heap H locs ∧ lv_has ls 6 [(4, .int v221), (3, .int l3_x35_1), (2, .int (iI (p1.toInt * 9))), (0, .ref (hX 0)), (1, .int p1)]) (fun join61 => ?_) ?_
        · refine W.tight (cells2 := (nX_sheet_x35_1 / 32 - (nX_sheet / 32))) (slots2 := (2 * nX_sheet_x35_1 - (2 * nX_sheet))) hzk hnk ?_
          refine lv_if_eq (tgt := 138) hx hb dX11_putGoal_111 (by decide) (fun c_111 => ?_) (fun c_111 => ?_)
          · have t_111 : l3_x35_1.toInt = 0 := toI_eq c_111 rfl (by decide : (0 : Int32).toInt = 0)
            refine lv_iload hx hb dX11_putGoal_138 (lv_at hl 0 rfl) ?_
            refine lv_if_eq (tgt := 187) hx hb dX11_putGoal_140 (by decide) (fun c_140 => ?_) (fun c_140 => ?_)
            · have t_140 : v221.toInt = 0 := toI_eq c_140 rfl (by decide : (0 : Int32).toInt = 0)
              have hl : lv_has _ _ ([(4, .int v221), (3, .int l3_x35_1), (2, .int (iI (p1.toInt * 9))), (0, .ref (hX 0)), (1, .int p1)]) := lv_sub hl [0, 1, 2, 3, 4] rfl
              refine W.known (fun hza hna => ?_)
              refine W.widen (k := 1875) (n := 120000) (by omega) (by omega) ?_
              exact join61 _ _ _ _ ⟨fX_sheet_x35_1, dX_sheet_x35_1, nX_sheet_x35_1, iX_sheetLength_x35_1, b_fX_sheet_x35_1, (by first | exact b_nX_sheet_x35_1 | with_reducible assumption | exact ⟨by omega, by omega⟩ | assumption), (b_iX_sheetLength_x35_1), (by first | with_reducible assumption | omega | (rw [iI_t (by omega) (by omega)]; omega) | (have h7 : (0 : Int32).toInt = 0 := (by decide); omega)), (show iX_sheetLength.toInt ≤ iX_sheetLength_x35_1.toInt from by omega), (show nX_sheet ≤ nX_sheet_x35_1 from by omega), ⟨by omega, by omega⟩, rfl, hP, hD, hS, hl⟩
            · have t_140 : ¬ v221.toInt = 0 := toI_neq c_140 rfl (by decide : (0 : Int32).toInt = 0)
              refine lv_aload_n hx hb dX11_putGoal_143 rfl (lv_at hl 3 rfl) ?_
              refine lv_iload hx hb dX11_putGoal_144 (lv_at hl 0 rfl) ?_
              refine lv_if_ge (tgt := 155) hx hb dX11_putGoal_146 (by decide) (fun c_146 => ?_) (fun c_146 => ?_)
              · have t_146 : v221.toInt ≥ 0 := toI_ge c_146 rfl (by decide : (0 : Int32).toInt = 0)
                obtain ⟨qS335, hR335, hSS335⟩ := hE.2.2.2 21 _ rfl
                refine lv_ldcwS hx hb hown hR335 dX11_putGoal_155 ?_
                refine W.known (fun hz0 hn0 => ?_)
                have hS0 := hS.1
                have p9 := cj_2_0 (WX hX aX kX hT hM fX_ready fX_sheet_x35_1 dX_sheet_x35_1 nX_sheet_x35_1 iX_sheetLength_x35_1 xX_reader xX_solver xX_prover xX_values xX_clauses xX_nets) (WM hM aM kM iM_stands iM_variables iM_rows iM_goals iM_differents iM_cases fM_from fM_to fM_whole fM_ways iM_plainRows fM_plainRow fM_kept fM_goalOver fM_goalUnder fM_goalMax fM_different)
                have hPc := hP.mem (fun q h => p9.mem_iff.mpr (List.mem_append_left _ h))
                have hDc := (hD.perm p9).left
                have hKc : va_K (dC, dI) vwCl (tX kX) _ := hK.sub [0, 1] rfl
                have hFc := freeG p9 hD hS hA
                refine va_callv (va_runV (As := [.ref qS335]) (rest := []) ⟨hx, hb, hml, hown, hts⟩ (Met.sV (m_X11_putText l dC dI hX aX kX hT hM fX_ready fX_sheet_x35_1 dX_sheet_x35_1 nX_sheet_x35_1 iX_sheetLength_x35_1 xX_reader xX_solver xX_prover xX_values xX_clauses xX_nets qS335 3 (fun j => ([32, 43, 32] : List Int32).getD j 0) b_fX_sheet_x35_1 (by first | exact b_nX_sheet_x35_1 | with_reducible assumption | exact ⟨by omega, by omega⟩ | assumption) (b_iX_sheetLength_x35_1) (by first | with_reducible assumption | omega | (rw [iI_t (by omega) (by omega)]; omega) | (have h7 : (0 : Int32).toInt = 0 := (by decide); omega)) (by decide) H.size) H) (cwV 1 hts gwsMX11_putGoal_0 rfl rfl rfl (by decide +kernel) ⟨by first | decide +kernel | (dsimp only [headSpec] <;> omega), by first | decide +kernel | (dsimp only [headSpec] <;> omega)⟩) ⟨fun a U g mk q => by obtain ⟨q0, qh, q1, qP, qK, qD, qE⟩ := q; exact ⟨q0, qh, q1, qP, va_K.moved (u := U) (U := U.calling g mk a) (Vm.Alike.refl U.vm) qK, qD, qE.same rfl⟩, va_recv hK hP (ci := 11) (q0 := 0) rfl rfl, fun U hU9 hW => ⟨rfl, hU9, by rw [hU9], by rw [hU9]; exact hPc, va_K.moved hW.alike hKc, hDc.weaken (fun _ _ _ _ => trivial), by rw [hU9]; exact (((hSS335 : (StrE qS335 3 (fun j => ([32, 43, 32] : List Int32).getD j 0)) A s s.heap).kept hS.2.1).narrow (fun q h => hFc q h)).warm hW⟩⟩ rfl rfl hl.1 rfl (lv_room (Nat.le_of_ble_eq_true rfl)) dX11_putGoal_158 ⟨by first | decide +kernel | (dsimp only [headSpec] <;> omega), by first | decide +kernel | (dsimp only [headSpec] <;> omega)⟩) hS (fun q _ h => hFc q h) hFc (fun u t9_ H locs ht hvm hw9 hB9 hz1 hk1 hS => ?_)
                revert u hw9 hB9
                refine fz_p4 ?_
                intro fX_sheet_235 dX_sheet_235 nX_sheet_235 iX_sheetLength_235 hw9 hB9
                try dsimp only at hw9 hB9
                revert hw9
                refine fz_a6 ?_
                intro b_fX_sheet_235 b_nX_sheet_235 b_iX_sheetLength_235 b_shl_235 f235_0 f235_1
                have hg1 := hB9.1.2.2.1
                rw [ht] at hg1
                have hg2 := hB9.1.2.2.2
                rw [ht] at hg2
                have hSz := hB9.2
                rw [ht] at hSz
                have p8 := cj_2_0 (WX hX aX kX hT hM fX_ready fX_sheet_235 dX_sheet_235 nX_sheet_235 iX_sheetLength_235 xX_reader xX_solver xX_prover xX_values xX_clauses xX_nets) (WM hM aM kM iM_stands iM_variables iM_rows iM_goals iM_differents iM_cases fM_from fM_to fM_whole fM_ways iM_plainRows fM_plainRow fM_kept fM_goalOver fM_goalUnder fM_goalMax fM_different)
                obtain ⟨hP, hD⟩ := frameG p9 p8 hP hD hk1 hFc (fz_P ht hB9.1.1) hB9.1.2.1
                have hz9 : H.size ≤ s.heap.size + (nX_sheet_235 / 32 - (nX_sheet / 32)) := by (try dsimp only at hg1); omega
                have hn9 : nS s.heap.size H ≤ (2 * nX_sheet_235 - (2 * nX_sheet)) := by rw [hSz.n hS0]; (try dsimp only at hg2); omega
                refine W.tight (cells2 := (nX_sheet_235 / 32 - (nX_sheet / 32))) (slots2 := (2 * nX_sheet_235 - (2 * nX_sheet))) hz9 hn9 ?_
                clear hz9 hn9 hz0 hn0 hS0 hSz hg1 hg2
                refine lv_aload_n hx hb dX11_putGoal_161 rfl (lv_at hl 3 rfl) ?_
                refine lv_iload hx hb dX11_putGoal_162 (lv_at hl 0 rfl) ?_
                refine W.known (fun hzk hnk => ?_)
                refine W.widen (k := 1875) (n := 120000) (by omega) (by omega) ?_
                refine W.cut (pc := 175) (fun H locs ls stk => ∃ (k0_j62 : Int32), (iX_sheetLength.toInt ≤ iX_sheetLength_235.toInt) ∧ (H.size + (nX_sheet / 32) ≤ s.heap.size + (nX_sheet_235 / 32) ∧ nS s.heap.size H + (2 * nX_sheet) ≤ (2 * nX_sheet_235)) ∧  stk = [.int k0_j62, .ref (hX 0)] ∧ va_P (dC, dI) vwCl (WX hX aX kX hT hM fX_ready fX_sheet_235 dX_sheet_235 nX_sheet_235 iX_sheetLength_235 xX_reader xX_solver xX_prover xX_values xX_clauses xX_nets ++ (WM hM aM kM iM_stands iM_variables iM_rows iM_goals iM_differents iM_cases fM_from fM_to fM_whole fM_ways iM_plainRows fM_plainRow fM_kept fM_goalOver fM_goalUnder fM_goalMax fM_different)) H ∧ va_D A (WX hX aX kX hT hM fX_ready fX_sheet_235 dX_sheet_235 nX_sheet_235 iX_sheetLength_235 xX_reader xX_solver xX_prover xX_values xX_clauses xX_nets ++ (WM hM aM kM iM_stands iM_variables iM_rows iM_goals iM_differents iM_cases fM_from fM_to fM_whole fM_ways iM_plainRows fM_plainRow fM_kept fM_goalOver fM_goalUnder fM_goalMax fM_different)) ∧ va_S A s.heap H locs ∧ lv_has ls 6 [(4, .int v221), (3, .int l3_x35_1), (2, .int (iI (p1.toInt * 9))), (0, .ref (hX 0)), (1, .int p1)]) (fun join62 => ?_) ?_
                · refine W.tight (cells2 := (nX_sheet_235 / 32 - (nX_sheet / 32))) (slots2 := (2 * nX_sheet_235 - (2 * nX_sheet))) hzk hnk ?_
                  refine lv_if_ge (tgt := 173) hx hb dX11_putGoal_164 (by decide) (fun c_164 => ?_) (fun c_164 => ?_)
                  · have t_164 : v221.toInt ≥ 0 := toI_ge c_164 rfl (by decide : (0 : Int32).toInt = 0)
                    refine lv_iload hx hb dX11_putGoal_173 (lv_at hl 0 rfl) ?_
                    have hl : lv_has _ _ ([(4, .int v221), (3, .int l3_x35_1), (2, .int (iI (p1.toInt * 9))), (0, .ref (hX 0)), (1, .int p1)]) := lv_sub hl [0, 1, 2, 3, 4] rfl
                    refine W.known (fun hza hna => ?_)
                    refine W.widen (k := 1875) (n := 120000) (by omega) (by omega) ?_
                    exact join62 _ _ _ _ ⟨v221, (show iX_sheetLength.toInt ≤ iX_sheetLength_235.toInt from by omega), ⟨by omega, by omega⟩, rfl, hP, hD, hS, hl⟩
                  · have t_164 : ¬ v221.toInt ≥ 0 := toI_nge c_164 rfl (by decide : (0 : Int32).toInt = 0)
                    refine lv_iload hx hb dX11_putGoal_167 (lv_at hl 0 rfl) ?_
                    refine lv_ineg hx hb dX11_putGoal_169 ?_
                    refine lv_topi (fun y237 hy237 => ?_)
                    obtain rfl : (iI (-v221.toInt)) = y237 := (hy237.trans (iI_neg2 (iI_of _))).symm
                    refine lv_goto (tgt := 175) hx hb dX11_putGoal_170 (by decide) ?_
                    have hl : lv_has _ _ ([(4, .int v221), (3, .int l3_x35_1), (2, .int (iI (p1.toInt * 9))), (0, .ref (hX 0)), (1, .int p1)]) := lv_sub hl [0, 1, 2, 3, 4] rfl
                    refine W.known (fun hza hna => ?_)
                    refine W.widen (k := 1875) (n := 120000) (by omega) (by omega) ?_
                    exact join62 _ _ _ _ ⟨(iI (-v221.toInt)), (show iX_sheetLength.toInt ≤ iX_sheetLength_235.toInt from by omega), ⟨by omega, by omega⟩, rfl, hP, hD, hS, hl⟩
                · intro H locs ls stk
                  refine fz_e1 ?_
                  intro k0_j62
                  refine fz_a7 ?_
                  intro hjx hzn9_1 hst9_2 hP hD hS hl
                  have hzj := hzn9_1.1
                  have hnj := hzn9_1.2
                  clear hzn9_1
                  subst hst9_2
                  refine W.tight (cells2 := (nX_sheet_235 / 32 - (nX_sheet / 32))) (slots2 := (2 * nX_sheet_235 - (2 * nX_sheet))) (tg1 hzj hS.1) (tg2 hnj) ?_
                  refine lv_aload_n hx hb dX11_putGoal_175 rfl (lv_at hl 3 rfl) ?_
                  refine va_get (D := (dC, dI)) (ci := 11) (v := .ref (hM 0)) (C := RX11) (T := TX11) (N := 11) hx hb hts iwsMX11_putGoal_in11 hown hK hP 0 rfl rfl 2 (by decide) (hts _ hm_m_X11_putGoal_0) (fun _ h9 => h9) rfl dX11_putGoal_176 ?_
                  refine va_get (D := (dC, dI)) (ci := 1) (v := .ref (aM 7)) (C := RX1) (T := TX1) (N := 17) hx hb hts iwsMX11_putGoal_in1 hown hK hP 3 rfl rfl 14 (by decide) (hts _ hm_m_X11_putGoal_3) (fun _ h9 => h9) rfl dX11_putGoal_179 ?_
                  refine lv_iload_n hx hb dX11_putGoal_182 rfl (lv_at hl 2 rfl) ?_
                  refine va_iald (cA := kM 7) (n := 27) (f := fM_goalUnder) hx hb hK hP 11 9 rfl rfl (vp_iI (Int.le_trans (by decide) (Int.mul_le_mul_of_nonneg_right (b_p1.1) (by decide))) (Int.lt_of_le_of_lt (Int.mul_le_mul_of_nonneg_right (b_p1.2) (by decide)) (by decide)) (by decide)) dX11_putGoal_183 ?_
                  refine lv_topi (fun v238 hv238 => ?_)
                  clear hv238
                  refine W.known (fun hz0 hn0 => ?_)
                  have hS0 := hS.1
                  have p9 := cj_2_0 (WX hX aX kX hT hM fX_ready fX_sheet_235 dX_sheet_235 nX_sheet_235 iX_sheetLength_235 xX_reader xX_solver xX_prover xX_values xX_clauses xX_nets) (WM hM aM kM iM_stands iM_variables iM_rows iM_goals iM_differents iM_cases fM_from fM_to fM_whole fM_ways iM_plainRows fM_plainRow fM_kept fM_goalOver fM_goalUnder fM_goalMax fM_different)
                  have hPc := hP.mem (fun q h => p9.mem_iff.mpr (List.mem_append_left _ h))
                  have hDc := (hD.perm p9).left
                  have hKc : va_K (dC, dI) vwCl (tX kX) _ := hK.sub [0, 1] rfl
                  have hFc := freeG p9 hD hS hA
                  refine va_callv (va_runV (As := [.int k0_j62, .int v238]) (rest := []) ⟨hx, hb, hml, hown, hts⟩ (Met.sV (m_X11_putRatio l dC dI hX aX kX hT hM fX_ready fX_sheet_235 dX_sheet_235 nX_sheet_235 iX_sheetLength_235 xX_reader xX_solver xX_prover xX_values xX_clauses xX_nets k0_j62 v238 b_fX_sheet_235 (by first | exact b_nX_sheet_235 | with_reducible assumption | exact ⟨by omega, by omega⟩ | assumption) (b_iX_sheetLength_235) (by first | with_reducible assumption | omega | (rw [iI_t (by omega) (by omega)]; omega) | (have h7 : (0 : Int32).toInt = 0 := (by decide); omega)) H.size) H) (cwV 2 hts gwsMX11_putGoal_3 rfl rfl rfl (by decide +kernel) ⟨by first | decide +kernel | (dsimp only [headSpec] <;> omega), by first | decide +kernel | (dsimp only [headSpec] <;> omega)⟩) ⟨fun a U g mk q => by obtain ⟨q0, qh, q1, qP, qK, qD⟩ := q; exact ⟨q0, qh, q1, qP, va_K.moved (u := U) (U := U.calling g mk a) (Vm.Alike.refl U.vm) qK, qD⟩, va_recv hK hP (ci := 11) (q0 := 0) rfl rfl, fun U hU9 hW => ⟨rfl, hU9, by rw [hU9], by rw [hU9]; exact hPc, va_K.moved hW.alike hKc, hDc.weaken (fun _ _ _ _ => trivial)⟩⟩ rfl rfl hl.1 rfl (lv_room (Nat.le_of_ble_eq_true rfl)) dX11_putGoal_184 ⟨by first | decide +kernel | (dsimp only [headSpec] <;> omega), by first | decide +kernel | (dsimp only [headSpec] <;> omega)⟩) hS (fun q _ h => hFc q h) hFc (fun u t9_ H locs ht hvm hw9 hB9 hz1 hk1 hS => ?_)
                  revert u hw9 hB9
                  refine fz_p4 ?_
                  intro fX_sheet_239 dX_sheet_239 nX_sheet_239 iX_sheetLength_239 hw9 hB9
                  try dsimp only at hw9 hB9
                  revert hw9
                  refine fz_a6 ?_
                  intro b_fX_sheet_239 b_nX_sheet_239 b_iX_sheetLength_239 b_shl_239 f239_0 f239_1
                  have hg1 := hB9.1.2.2.1
                  rw [ht] at hg1
                  have hg2 := hB9.1.2.2.2
                  rw [ht] at hg2
                  have hSz := hB9.2
                  rw [ht] at hSz
                  have p8 := cj_2_0 (WX hX aX kX hT hM fX_ready fX_sheet_239 dX_sheet_239 nX_sheet_239 iX_sheetLength_239 xX_reader xX_solver xX_prover xX_values xX_clauses xX_nets) (WM hM aM kM iM_stands iM_variables iM_rows iM_goals iM_differents iM_cases fM_from fM_to fM_whole fM_ways iM_plainRows fM_plainRow fM_kept fM_goalOver fM_goalUnder fM_goalMax fM_different)
                  obtain ⟨hP, hD⟩ := frameG p9 p8 hP hD hk1 hFc (fz_P ht hB9.1.1) hB9.1.2.1
                  have hz9 : H.size ≤ s.heap.size + (nX_sheet_239 / 32 - (nX_sheet / 32)) := by (try dsimp only at hg1); omega
                  have hn9 : nS s.heap.size H ≤ (2 * nX_sheet_239 - (2 * nX_sheet)) := by rw [hSz.n hS0]; (try dsimp only at hg2); omega
                  refine W.tight (cells2 := (nX_sheet_239 / 32 - (nX_sheet / 32))) (slots2 := (2 * nX_sheet_239 - (2 * nX_sheet))) hz9 hn9 ?_
                  clear hz9 hn9 hz0 hn0 hS0 hSz hg1 hg2
                  have hl : lv_has _ _ ([(4, .int v221), (3, .int l3_x35_1), (2, .int (iI (p1.toInt * 9))), (0, .ref (hX 0)), (1, .int p1)]) := lv_sub hl [0, 1, 2, 3, 4] rfl
                  refine W.known (fun hza hna => ?_)
                  refine W.widen (k := 1875) (n := 120000) (by omega) (by omega) ?_
                  exact join61 _ _ _ _ ⟨fX_sheet_239, dX_sheet_239, nX_sheet_239, iX_sheetLength_239, b_fX_sheet_239, (by first | exact b_nX_sheet_239 | with_reducible assumption | exact ⟨by omega, by omega⟩ | assumption), (b_iX_sheetLength_239), (by first | with_reducible assumption | omega | (rw [iI_t (by omega) (by omega)]; omega) | (have h7 : (0 : Int32).toInt = 0 := (by decide); omega)), (show iX_sheetLength.toInt ≤ iX_sheetLength_239.toInt from by omega), (show nX_sheet ≤ nX_sheet_239 from by omega), ⟨by omega, by omega⟩, rfl, hP, hD, hS, hl⟩
              · have t_146 : ¬ v221.toInt ≥ 0 := toI_nge c_146 rfl (by decide : (0 : Int32).toInt = 0)
                obtain ⟨qS333, hR333, hSS333⟩ := hE.2.2.2 20 _ rfl
                refine lv_ldcwS hx hb hown hR333 dX11_putGoal_149 ?_
                refine lv_goto (tgt := 158) hx hb dX11_putGoal_152 (by decide) ?_
                refine W.known (fun hz0 hn0 => ?_)
                have hS0 := hS.1
                have p9 := cj_2_0 (WX hX aX kX hT hM fX_ready fX_sheet_x35_1 dX_sheet_x35_1 nX_sheet_x35_1 iX_sheetLength_x35_1 xX_reader xX_solver xX_prover xX_values xX_clauses xX_nets) (WM hM aM kM iM_stands iM_variables iM_rows iM_goals iM_differents iM_cases fM_from fM_to fM_whole fM_ways iM_plainRows fM_plainRow fM_kept fM_goalOver fM_goalUnder fM_goalMax fM_different)
                have hPc := hP.mem (fun q h => p9.mem_iff.mpr (List.mem_append_left _ h))
                have hDc := (hD.perm p9).left
                have hKc : va_K (dC, dI) vwCl (tX kX) _ := hK.sub [0, 1] rfl
                have hFc := freeG p9 hD hS hA
                refine va_callv (va_runV (As := [.ref qS333]) (rest := []) ⟨hx, hb, hml, hown, hts⟩ (Met.sV (m_X11_putText l dC dI hX aX kX hT hM fX_ready fX_sheet_x35_1 dX_sheet_x35_1 nX_sheet_x35_1 iX_sheetLength_x35_1 xX_reader xX_solver xX_prover xX_values xX_clauses xX_nets qS333 3 (fun j => ([32, 45, 32] : List Int32).getD j 0) b_fX_sheet_x35_1 (by first | exact b_nX_sheet_x35_1 | with_reducible assumption | exact ⟨by omega, by omega⟩ | assumption) (b_iX_sheetLength_x35_1) (by first | with_reducible assumption | omega | (rw [iI_t (by omega) (by omega)]; omega) | (have h7 : (0 : Int32).toInt = 0 := (by decide); omega)) (by decide) H.size) H) (cwV 1 hts gwsMX11_putGoal_0 rfl rfl rfl (by decide +kernel) ⟨by first | decide +kernel | (dsimp only [headSpec] <;> omega), by first | decide +kernel | (dsimp only [headSpec] <;> omega)⟩) ⟨fun a U g mk q => by obtain ⟨q0, qh, q1, qP, qK, qD, qE⟩ := q; exact ⟨q0, qh, q1, qP, va_K.moved (u := U) (U := U.calling g mk a) (Vm.Alike.refl U.vm) qK, qD, qE.same rfl⟩, va_recv hK hP (ci := 11) (q0 := 0) rfl rfl, fun U hU9 hW => ⟨rfl, hU9, by rw [hU9], by rw [hU9]; exact hPc, va_K.moved hW.alike hKc, hDc.weaken (fun _ _ _ _ => trivial), by rw [hU9]; exact (((hSS333 : (StrE qS333 3 (fun j => ([32, 45, 32] : List Int32).getD j 0)) A s s.heap).kept hS.2.1).narrow (fun q h => hFc q h)).warm hW⟩⟩ rfl rfl hl.1 rfl (lv_room (Nat.le_of_ble_eq_true rfl)) dX11_putGoal_158 ⟨by first | decide +kernel | (dsimp only [headSpec] <;> omega), by first | decide +kernel | (dsimp only [headSpec] <;> omega)⟩) hS (fun q _ h => hFc q h) hFc (fun u t9_ H locs ht hvm hw9 hB9 hz1 hk1 hS => ?_)
                revert u hw9 hB9
                refine fz_p4 ?_
                intro fX_sheet_240 dX_sheet_240 nX_sheet_240 iX_sheetLength_240 hw9 hB9
                try dsimp only at hw9 hB9
                revert hw9
                refine fz_a6 ?_
                intro b_fX_sheet_240 b_nX_sheet_240 b_iX_sheetLength_240 b_shl_240 f240_0 f240_1
                have hg1 := hB9.1.2.2.1
                rw [ht] at hg1
                have hg2 := hB9.1.2.2.2
                rw [ht] at hg2
                have hSz := hB9.2
                rw [ht] at hSz
                have p8 := cj_2_0 (WX hX aX kX hT hM fX_ready fX_sheet_240 dX_sheet_240 nX_sheet_240 iX_sheetLength_240 xX_reader xX_solver xX_prover xX_values xX_clauses xX_nets) (WM hM aM kM iM_stands iM_variables iM_rows iM_goals iM_differents iM_cases fM_from fM_to fM_whole fM_ways iM_plainRows fM_plainRow fM_kept fM_goalOver fM_goalUnder fM_goalMax fM_different)
                obtain ⟨hP, hD⟩ := frameG p9 p8 hP hD hk1 hFc (fz_P ht hB9.1.1) hB9.1.2.1
                have hz9 : H.size ≤ s.heap.size + (nX_sheet_240 / 32 - (nX_sheet / 32)) := by (try dsimp only at hg1); omega
                have hn9 : nS s.heap.size H ≤ (2 * nX_sheet_240 - (2 * nX_sheet)) := by rw [hSz.n hS0]; (try dsimp only at hg2); omega
                refine W.tight (cells2 := (nX_sheet_240 / 32 - (nX_sheet / 32))) (slots2 := (2 * nX_sheet_240 - (2 * nX_sheet))) hz9 hn9 ?_
                clear hz9 hn9 hz0 hn0 hS0 hSz hg1 hg2
                refine lv_aload_n hx hb dX11_putGoal_161 rfl (lv_at hl 3 rfl) ?_
                refine lv_iload hx hb dX11_putGoal_162 (lv_at hl 0 rfl) ?_
                refine W.known (fun hzk hnk => ?_)
                refine W.widen (k := 1875) (n := 120000) (by omega) (by omega) ?_
                refine W.cut (pc := 175) (fun H locs ls stk => ∃ (k0_j63 : Int32), (iX_sheetLength.toInt ≤ iX_sheetLength_240.toInt) ∧ (H.size + (nX_sheet / 32) ≤ s.heap.size + (nX_sheet_240 / 32) ∧ nS s.heap.size H + (2 * nX_sheet) ≤ (2 * nX_sheet_240)) ∧  stk = [.int k0_j63, .ref (hX 0)] ∧ va_P (dC, dI) vwCl (WX hX aX kX hT hM fX_ready fX_sheet_240 dX_sheet_240 nX_sheet_240 iX_sheetLength_240 xX_reader xX_solver xX_prover xX_values xX_clauses xX_nets ++ (WM hM aM kM iM_stands iM_variables iM_rows iM_goals iM_differents iM_cases fM_from fM_to fM_whole fM_ways iM_plainRows fM_plainRow fM_kept fM_goalOver fM_goalUnder fM_goalMax fM_different)) H ∧ va_D A (WX hX aX kX hT hM fX_ready fX_sheet_240 dX_sheet_240 nX_sheet_240 iX_sheetLength_240 xX_reader xX_solver xX_prover xX_values xX_clauses xX_nets ++ (WM hM aM kM iM_stands iM_variables iM_rows iM_goals iM_differents iM_cases fM_from fM_to fM_whole fM_ways iM_plainRows fM_plainRow fM_kept fM_goalOver fM_goalUnder fM_goalMax fM_different)) ∧ va_S A s.heap H locs ∧ lv_has ls 6 [(4, .int v221), (3, .int l3_x35_1), (2, .int (iI (p1.toInt * 9))), (0, .ref (hX 0)), (1, .int p1)]) (fun join63 => ?_) ?_
                · refine W.tight (cells2 := (nX_sheet_240 / 32 - (nX_sheet / 32))) (slots2 := (2 * nX_sheet_240 - (2 * nX_sheet))) hzk hnk ?_
                  refine lv_if_ge (tgt := 173) hx hb dX11_putGoal_164 (by decide) (fun c_164 => ?_) (fun c_164 => ?_)
                  · have t_164 : v221.toInt ≥ 0 := toI_ge c_164 rfl (by decide : (0 : Int32).toInt = 0)
                    refine lv_iload hx hb dX11_putGoal_173 (lv_at hl 0 rfl) ?_
                    have hl : lv_has _ _ ([(4, .int v221), (3, .int l3_x35_1), (2, .int (iI (p1.toInt * 9))), (0, .ref (hX 0)), (1, .int p1)]) := lv_sub hl [0, 1, 2, 3, 4] rfl
                    refine W.known (fun hza hna => ?_)
                    refine W.widen (k := 1875) (n := 120000) (by omega) (by omega) ?_
                    exact join63 _ _ _ _ ⟨v221, (show iX_sheetLength.toInt ≤ iX_sheetLength_240.toInt from by omega), ⟨by omega, by omega⟩, rfl, hP, hD, hS, hl⟩
                  · have t_164 : ¬ v221.toInt ≥ 0 := toI_nge c_164 rfl (by decide : (0 : Int32).toInt = 0)
                    refine lv_iload hx hb dX11_putGoal_167 (lv_at hl 0 rfl) ?_
                    refine lv_ineg hx hb dX11_putGoal_169 ?_
                    refine lv_topi (fun y242 hy242 => ?_)
                    obtain rfl : (iI (-v221.toInt)) = y242 := (hy242.trans (iI_neg2 (iI_of _))).symm
                    refine lv_goto (tgt := 175) hx hb dX11_putGoal_170 (by decide) ?_
                    have hl : lv_has _ _ ([(4, .int v221), (3, .int l3_x35_1), (2, .int (iI (p1.toInt * 9))), (0, .ref (hX 0)), (1, .int p1)]) := lv_sub hl [0, 1, 2, 3, 4] rfl
                    refine W.known (fun hza hna => ?_)
                    refine W.widen (k := 1875) (n := 120000) (by omega) (by omega) ?_
                    exact join63 _ _ _ _ ⟨(iI (-v221.toInt)), (show iX_sheetLength.toInt ≤ iX_sheetLength_240.toInt from by omega), ⟨by omega, by omega⟩, rfl, hP, hD, hS, hl⟩
                · intro H locs ls stk
                  refine fz_e1 ?_
                  intro k0_j63
                  refine fz_a7 ?_
                  intro hjx hzn9_1 hst9_2 hP hD hS hl
                  have hzj := hzn9_1.1
                  have hnj := hzn9_1.2
                  clear hzn9_1
                  subst hst9_2
                  refine W.tight (cells2 := (nX_sheet_240 / 32 - (nX_sheet / 32))) (slots2 := (2 * nX_sheet_240 - (2 * nX_sheet))) (tg1 hzj hS.1) (tg2 hnj) ?_
                  refine lv_aload_n hx hb dX11_putGoal_175 rfl (lv_at hl 3 rfl) ?_
                  refine va_get (D := (dC, dI)) (ci := 11) (v := .ref (hM 0)) (C := RX11) (T := TX11) (N := 11) hx hb hts iwsMX11_putGoal_in11 hown hK hP 0 rfl rfl 2 (by decide) (hts _ hm_m_X11_putGoal_0) (fun _ h9 => h9) rfl dX11_putGoal_176 ?_
                  refine va_get (D := (dC, dI)) (ci := 1) (v := .ref (aM 7)) (C := RX1) (T := TX1) (N := 17) hx hb hts iwsMX11_putGoal_in1 hown hK hP 3 rfl rfl 14 (by decide) (hts _ hm_m_X11_putGoal_3) (fun _ h9 => h9) rfl dX11_putGoal_179 ?_
                  refine lv_iload_n hx hb dX11_putGoal_182 rfl (lv_at hl 2 rfl) ?_
                  refine va_iald (cA := kM 7) (n := 27) (f := fM_goalUnder) hx hb hK hP 11 9 rfl rfl (vp_iI (Int.le_trans (by decide) (Int.mul_le_mul_of_nonneg_right (b_p1.1) (by decide))) (Int.lt_of_le_of_lt (Int.mul_le_mul_of_nonneg_right (b_p1.2) (by decide)) (by decide)) (by decide)) dX11_putGoal_183 ?_
                  refine lv_topi (fun v243 hv243 => ?_)
                  clear hv243
                  refine W.known (fun hz0 hn0 => ?_)
                  have hS0 := hS.1
                  have p9 := cj_2_0 (WX hX aX kX hT hM fX_ready fX_sheet_240 dX_sheet_240 nX_sheet_240 iX_sheetLength_240 xX_reader xX_solver xX_prover xX_values xX_clauses xX_nets) (WM hM aM kM iM_stands iM_variables iM_rows iM_goals iM_differents iM_cases fM_from fM_to fM_whole fM_ways iM_plainRows fM_plainRow fM_kept fM_goalOver fM_goalUnder fM_goalMax fM_different)
                  have hPc := hP.mem (fun q h => p9.mem_iff.mpr (List.mem_append_left _ h))
                  have hDc := (hD.perm p9).left
                  have hKc : va_K (dC, dI) vwCl (tX kX) _ := hK.sub [0, 1] rfl
                  have hFc := freeG p9 hD hS hA
                  refine va_callv (va_runV (As := [.int k0_j63, .int v243]) (rest := []) ⟨hx, hb, hml, hown, hts⟩ (Met.sV (m_X11_putRatio l dC dI hX aX kX hT hM fX_ready fX_sheet_240 dX_sheet_240 nX_sheet_240 iX_sheetLength_240 xX_reader xX_solver xX_prover xX_values xX_clauses xX_nets k0_j63 v243 b_fX_sheet_240 (by first | exact b_nX_sheet_240 | with_reducible assumption | exact ⟨by omega, by omega⟩ | assumption) (b_iX_sheetLength_240) (by first | with_reducible assumption | omega | (rw [iI_t (by omega) (by omega)]; omega) | (have h7 : (0 : Int32).toInt = 0 := (by decide); omega)) H.size) H) (cwV 2 hts gwsMX11_putGoal_3 rfl rfl rfl (by decide +kernel) ⟨by first | decide +kernel | (dsimp only [headSpec] <;> omega), by first | decide +kernel | (dsimp only [headSpec] <;> omega)⟩) ⟨fun a U g mk q => by obtain ⟨q0, qh, q1, qP, qK, qD⟩ := q; exact ⟨q0, qh, q1, qP, va_K.moved (u := U) (U := U.calling g mk a) (Vm.Alike.refl U.vm) qK, qD⟩, va_recv hK hP (ci := 11) (q0 := 0) rfl rfl, fun U hU9 hW => ⟨rfl, hU9, by rw [hU9], by rw [hU9]; exact hPc, va_K.moved hW.alike hKc, hDc.weaken (fun _ _ _ _ => trivial)⟩⟩ rfl rfl hl.1 rfl (lv_room (Nat.le_of_ble_eq_true rfl)) dX11_putGoal_184 ⟨by first | decide +kernel | (dsimp only [headSpec] <;> omega), by first | decide +kernel | (dsimp only [headSpec] <;> omega)⟩) hS (fun q _ h => hFc q h) hFc (fun u t9_ H locs ht hvm hw9 hB9 hz1 hk1 hS => ?_)
                  revert u hw9 hB9
                  refine fz_p4 ?_
                  intro fX_sheet_244 dX_sheet_244 nX_sheet_244 iX_sheetLength_244 hw9 hB9
                  try dsimp only at hw9 hB9
                  revert hw9
                  refine fz_a6 ?_
                  intro b_fX_sheet_244 b_nX_sheet_244 b_iX_sheetLength_244 b_shl_244 f244_0 f244_1
                  have hg1 := hB9.1.2.2.1
                  rw [ht] at hg1
                  have hg2 := hB9.1.2.2.2
                  rw [ht] at hg2
                  have hSz := hB9.2
                  rw [ht] at hSz
                  have p8 := cj_2_0 (WX hX aX kX hT hM fX_ready fX_sheet_244 dX_sheet_244 nX_sheet_244 iX_sheetLength_244 xX_reader xX_solver xX_prover xX_values xX_clauses xX_nets) (WM hM aM kM iM_stands iM_variables iM_rows iM_goals iM_differents iM_cases fM_from fM_to fM_whole fM_ways iM_plainRows fM_plainRow fM_kept fM_goalOver fM_goalUnder fM_goalMax fM_different)
                  obtain ⟨hP, hD⟩ := frameG p9 p8 hP hD hk1 hFc (fz_P ht hB9.1.1) hB9.1.2.1
                  have hz9 : H.size ≤ s.heap.size + (nX_sheet_244 / 32 - (nX_sheet / 32)) := by (try dsimp only at hg1); omega
                  have hn9 : nS s.heap.size H ≤ (2 * nX_sheet_244 - (2 * nX_sheet)) := by rw [hSz.n hS0]; (try dsimp only at hg2); omega
                  refine W.tight (cells2 := (nX_sheet_244 / 32 - (nX_sheet / 32))) (slots2 := (2 * nX_sheet_244 - (2 * nX_sheet))) hz9 hn9 ?_
                  clear hz9 hn9 hz0 hn0 hS0 hSz hg1 hg2
                  have hl : lv_has _ _ ([(4, .int v221), (3, .int l3_x35_1), (2, .int (iI (p1.toInt * 9))), (0, .ref (hX 0)), (1, .int p1)]) := lv_sub hl [0, 1, 2, 3, 4] rfl
                  refine W.known (fun hza hna => ?_)
                  refine W.widen (k := 1875) (n := 120000) (by omega) (by omega) ?_
                  exact join61 _ _ _ _ ⟨fX_sheet_244, dX_sheet_244, nX_sheet_244, iX_sheetLength_244, b_fX_sheet_244, (by first | exact b_nX_sheet_244 | with_reducible assumption | exact ⟨by omega, by omega⟩ | assumption), (b_iX_sheetLength_244), (by first | with_reducible assumption | omega | (rw [iI_t (by omega) (by omega)]; omega) | (have h7 : (0 : Int32).toInt = 0 := (by decide); omega)), (show iX_sheetLength.toInt ≤ iX_sheetLength_244.toInt from by omega), (show nX_sheet ≤ nX_sheet_244 from by omega), ⟨by omega, by omega⟩, rfl, hP, hD, hS, hl⟩
          · have t_111 : ¬ l3_x35_1.toInt = 0 := toI_neq c_111 rfl (by decide : (0 : Int32).toInt = 0)
            refine lv_aload_n hx hb dX11_putGoal_114 rfl (lv_at hl 3 rfl) ?_
            refine lv_bipush (v := 32) hx hb dX11_putGoal_115 (by decide) ?_
            refine W.known (fun hz0 hn0 => ?_)
            have hS0 := hS.1
            have p9 := cj_2_0 (WX hX aX kX hT hM fX_ready fX_sheet_x35_1 dX_sheet_x35_1 nX_sheet_x35_1 iX_sheetLength_x35_1 xX_reader xX_solver xX_prover xX_values xX_clauses xX_nets) (WM hM aM kM iM_stands iM_variables iM_rows iM_goals iM_differents iM_cases fM_from fM_to fM_whole fM_ways iM_plainRows fM_plainRow fM_kept fM_goalOver fM_goalUnder fM_goalMax fM_different)
            have hPc := hP.mem (fun q h => p9.mem_iff.mpr (List.mem_append_left _ h))
            have hDc := (hD.perm p9).left
            have hKc : va_K (dC, dI) vwCl (tX kX) _ := hK.sub [0, 1] rfl
            have hFc := freeG p9 hD hS hA
            refine va_callv (va_runV (As := [.int 32]) (rest := []) ⟨hx, hb, hml, hown, hts⟩ (Met.sV (m_X11_put l dC dI hX aX kX hT hM fX_ready fX_sheet_x35_1 dX_sheet_x35_1 nX_sheet_x35_1 iX_sheetLength_x35_1 xX_reader xX_solver xX_prover xX_values xX_clauses xX_nets 32 b_fX_sheet_x35_1 (by first | exact b_nX_sheet_x35_1 | with_reducible assumption | exact ⟨by omega, by omega⟩ | assumption) (b_iX_sheetLength_x35_1) (by first | with_reducible assumption | omega | (rw [iI_t (by omega) (by omega)]; omega) | (have h7 : (0 : Int32).toInt = 0 := (by decide); omega)) H.size) H) (cwV 1 hts gwsMX11_putGoal_2 rfl rfl rfl (by decide +kernel) ⟨by first | decide +kernel | (dsimp only [headSpec] <;> omega), by first | decide +kernel | (dsimp only [headSpec] <;> omega)⟩) ⟨fun a U g mk q => by obtain ⟨q0, qh, q1, qP, qK, qD⟩ := q; exact ⟨q0, qh, q1, qP, va_K.moved (u := U) (U := U.calling g mk a) (Vm.Alike.refl U.vm) qK, qD⟩, va_recv hK hP (ci := 11) (q0 := 0) rfl rfl, fun U hU9 hW => ⟨rfl, hU9, by rw [hU9], by rw [hU9]; exact hPc, va_K.moved hW.alike hKc, hDc.weaken (fun _ _ _ _ => trivial)⟩⟩ rfl rfl hl.1 rfl (lv_room (Nat.le_of_ble_eq_true rfl)) dX11_putGoal_117 ⟨by first | decide +kernel | (dsimp only [headSpec] <;> omega), by first | decide +kernel | (dsimp only [headSpec] <;> omega)⟩) hS (fun q _ h => hFc q h) hFc (fun u t9_ H locs ht hvm hw9 hB9 hz1 hk1 hS => ?_)
            revert u hw9 hB9
            refine fz_p4 ?_
            intro fX_sheet_245 dX_sheet_245 nX_sheet_245 iX_sheetLength_245 hw9 hB9
            try dsimp only at hw9 hB9
            revert hw9
            refine fz_a6 ?_
            intro b_fX_sheet_245 b_nX_sheet_245 b_iX_sheetLength_245 b_shl_245 f245_0 f245_1
            have hg1 := hB9.1.2.2.1
            rw [ht] at hg1
            have hg2 := hB9.1.2.2.2
            rw [ht] at hg2
            have hSz := hB9.2
            rw [ht] at hSz
            have p8 := cj_2_0 (WX hX aX kX hT hM fX_ready fX_sheet_245 dX_sheet_245 nX_sheet_245 iX_sheetLength_245 xX_reader xX_solver xX_prover xX_values xX_clauses xX_nets) (WM hM aM kM iM_stands iM_variables iM_rows iM_goals iM_differents iM_cases fM_from fM_to fM_whole fM_ways iM_plainRows fM_plainRow fM_kept fM_goalOver fM_goalUnder fM_goalMax fM_different)
            obtain ⟨hP, hD⟩ := frameG p9 p8 hP hD hk1 hFc (fz_P ht hB9.1.1) hB9.1.2.1
            have hz9 : H.size ≤ s.heap.size + (nX_sheet_245 / 32 - (nX_sheet / 32)) := by (try dsimp only at hg1); omega
            have hn9 : nS s.heap.size H ≤ (2 * nX_sheet_245 - (2 * nX_sheet)) := by rw [hSz.n hS0]; (try dsimp only at hg2); omega
            refine W.tight (cells2 := (nX_sheet_245 / 32 - (nX_sheet / 32))) (slots2 := (2 * nX_sheet_245 - (2 * nX_sheet))) hz9 hn9 ?_
            clear hz9 hn9 hz0 hn0 hS0 hSz hg1 hg2
            refine lv_aload_n hx hb dX11_putGoal_120 rfl (lv_at hl 3 rfl) ?_
            refine lv_iload hx hb dX11_putGoal_121 (lv_at hl 0 rfl) ?_
            refine lv_aload_n hx hb dX11_putGoal_123 rfl (lv_at hl 3 rfl) ?_
            refine va_get (D := (dC, dI)) (ci := 11) (v := .ref (hM 0)) (C := RX11) (T := TX11) (N := 11) hx hb hts iwsMX11_putGoal_in11 hown hK hP 0 rfl rfl 2 (by decide) (hts _ hm_m_X11_putGoal_0) (fun _ h9 => h9) rfl dX11_putGoal_124 ?_
            refine va_get (D := (dC, dI)) (ci := 1) (v := .ref (aM 7)) (C := RX1) (T := TX1) (N := 17) hx hb hts iwsMX11_putGoal_in1 hown hK hP 3 rfl rfl 14 (by decide) (hts _ hm_m_X11_putGoal_3) (fun _ h9 => h9) rfl dX11_putGoal_127 ?_
            refine lv_iload_n hx hb dX11_putGoal_130 rfl (lv_at hl 2 rfl) ?_
            refine va_iald (cA := kM 7) (n := 27) (f := fM_goalUnder) hx hb hK hP 11 9 rfl rfl (vp_iI (Int.le_trans (by decide) (Int.mul_le_mul_of_nonneg_right (b_p1.1) (by decide))) (Int.lt_of_le_of_lt (Int.mul_le_mul_of_nonneg_right (b_p1.2) (by decide)) (by decide)) (by decide)) dX11_putGoal_131 ?_
            refine lv_topi (fun v246 hv246 => ?_)
            clear hv246
            refine W.known (fun hz0 hn0 => ?_)
            have hS0 := hS.1
            have p9 := cj_2_0 (WX hX aX kX hT hM fX_ready fX_sheet_245 dX_sheet_245 nX_sheet_245 iX_sheetLength_245 xX_reader xX_solver xX_prover xX_values xX_clauses xX_nets) (WM hM aM kM iM_stands iM_variables iM_rows iM_goals iM_differents iM_cases fM_from fM_to fM_whole fM_ways iM_plainRows fM_plainRow fM_kept fM_goalOver fM_goalUnder fM_goalMax fM_different)
            have hPc := hP.mem (fun q h => p9.mem_iff.mpr (List.mem_append_left _ h))
            have hDc := (hD.perm p9).left
            have hKc : va_K (dC, dI) vwCl (tX kX) _ := hK.sub [0, 1] rfl
            have hFc := freeG p9 hD hS hA
            refine va_callv (va_runV (As := [.int v221, .int v246]) (rest := []) ⟨hx, hb, hml, hown, hts⟩ (Met.sV (m_X11_putRatio l dC dI hX aX kX hT hM fX_ready fX_sheet_245 dX_sheet_245 nX_sheet_245 iX_sheetLength_245 xX_reader xX_solver xX_prover xX_values xX_clauses xX_nets v221 v246 b_fX_sheet_245 (by first | exact b_nX_sheet_245 | with_reducible assumption | exact ⟨by omega, by omega⟩ | assumption) (b_iX_sheetLength_245) (by first | with_reducible assumption | omega | (rw [iI_t (by omega) (by omega)]; omega) | (have h7 : (0 : Int32).toInt = 0 := (by decide); omega)) H.size) H) (cwV 2 hts gwsMX11_putGoal_3 rfl rfl rfl (by decide +kernel) ⟨by first | decide +kernel | (dsimp only [headSpec] <;> omega), by first | decide +kernel | (dsimp only [headSpec] <;> omega)⟩) ⟨fun a U g mk q => by obtain ⟨q0, qh, q1, qP, qK, qD⟩ := q; exact ⟨q0, qh, q1, qP, va_K.moved (u := U) (U := U.calling g mk a) (Vm.Alike.refl U.vm) qK, qD⟩, va_recv hK hP (ci := 11) (q0 := 0) rfl rfl, fun U hU9 hW => ⟨rfl, hU9, by rw [hU9], by rw [hU9]; exact hPc, va_K.moved hW.alike hKc, hDc.weaken (fun _ _ _ _ => trivial)⟩⟩ rfl rfl hl.1 rfl (lv_room (Nat.le_of_ble_eq_true rfl)) dX11_putGoal_132 ⟨by first | decide +kernel | (dsimp only [headSpec] <;> omega), by first | decide +kernel | (dsimp only [headSpec] <;> omega)⟩) hS (fun q _ h => hFc q h) hFc (fun u t9_ H locs ht hvm hw9 hB9 hz1 hk1 hS => ?_)
            revert u hw9 hB9
            refine fz_p4 ?_
            intro fX_sheet_247 dX_sheet_247 nX_sheet_247 iX_sheetLength_247 hw9 hB9
            try dsimp only at hw9 hB9
            revert hw9
            refine fz_a6 ?_
            intro b_fX_sheet_247 b_nX_sheet_247 b_iX_sheetLength_247 b_shl_247 f247_0 f247_1
            have hg1 := hB9.1.2.2.1
            rw [ht] at hg1
            have hg2 := hB9.1.2.2.2
            rw [ht] at hg2
            have hSz := hB9.2
            rw [ht] at hSz
            have p8 := cj_2_0 (WX hX aX kX hT hM fX_ready fX_sheet_247 dX_sheet_247 nX_sheet_247 iX_sheetLength_247 xX_reader xX_solver xX_prover xX_values xX_clauses xX_nets) (WM hM aM kM iM_stands iM_variables iM_rows iM_goals iM_differents iM_cases fM_from fM_to fM_whole fM_ways iM_plainRows fM_plainRow fM_kept fM_goalOver fM_goalUnder fM_goalMax fM_different)
            obtain ⟨hP, hD⟩ := frameG p9 p8 hP hD hk1 hFc (fz_P ht hB9.1.1) hB9.1.2.1
            have hz9 : H.size ≤ s.heap.size + (nX_sheet_247 / 32 - (nX_sheet / 32)) := by (try dsimp only at hg1); omega
            have hn9 : nS s.heap.size H ≤ (2 * nX_sheet_247 - (2 * nX_sheet)) := by rw [hSz.n hS0]; (try dsimp only at hg2); omega
            refine W.tight (cells2 := (nX_sheet_247 / 32 - (nX_sheet / 32))) (slots2 := (2 * nX_sheet_247 - (2 * nX_sheet))) hz9 hn9 ?_
            clear hz9 hn9 hz0 hn0 hS0 hSz hg1 hg2
            refine lv_goto (tgt := 187) hx hb dX11_putGoal_135 (by decide) ?_
            have hl : lv_has _ _ ([(4, .int v221), (3, .int l3_x35_1), (2, .int (iI (p1.toInt * 9))), (0, .ref (hX 0)), (1, .int p1)]) := lv_sub hl [0, 1, 2, 3, 4] rfl
            refine W.known (fun hza hna => ?_)
            refine W.widen (k := 1875) (n := 120000) (by omega) (by omega) ?_
            exact join61 _ _ _ _ ⟨fX_sheet_247, dX_sheet_247, nX_sheet_247, iX_sheetLength_247, b_fX_sheet_247, (by first | exact b_nX_sheet_247 | with_reducible assumption | exact ⟨by omega, by omega⟩ | assumption), (b_iX_sheetLength_247), (by first | with_reducible assumption | omega | (rw [iI_t (by omega) (by omega)]; omega) | (have h7 : (0 : Int32).toInt = 0 := (by decide); omega)), (show iX_sheetLength.toInt ≤ iX_sheetLength_247.toInt from by omega), (show nX_sheet ≤ nX_sheet_247 from by omega), ⟨by omega, by omega⟩, rfl, hP, hD, hS, hl⟩
        · intro H locs ls stk
          refine fz_e4 ?_
          intro fX_sheet_j61 dX_sheet_j61 nX_sheet_j61 iX_sheetLength_j61
          refine fz_a12 ?_
          intro b_fX_sheet_j61 b_nX_sheet_j61 b_iX_sheetLength_j61 b_shl_j61 hjx hgm0_j61 hzn9_6 hst9_7 hP hD hS hl
          have hzj := hzn9_6.1
          have hnj := hzn9_6.2
          clear hzn9_6
          subst hst9_7
          refine W.tight (cells2 := (nX_sheet_j61 / 32 - (nX_sheet / 32))) (slots2 := (2 * nX_sheet_j61 - (2 * nX_sheet))) (tg1 hzj hS.1) (tg2 hnj) ?_
          refine lv_aload_n hx hb dX11_putGoal_187 rfl (lv_at hl 3 rfl) ?_
          obtain ⟨qS292, hR292, hSS292⟩ := hE.2.2.2 4 _ rfl
          refine lv_ldcwS hx hb hown hR292 dX11_putGoal_188 ?_
          refine W.known (fun hz0 hn0 => ?_)
          have hS0 := hS.1
          have p9 := cj_2_0 (WX hX aX kX hT hM fX_ready fX_sheet_j61 dX_sheet_j61 nX_sheet_j61 iX_sheetLength_j61 xX_reader xX_solver xX_prover xX_values xX_clauses xX_nets) (WM hM aM kM iM_stands iM_variables iM_rows iM_goals iM_differents iM_cases fM_from fM_to fM_whole fM_ways iM_plainRows fM_plainRow fM_kept fM_goalOver fM_goalUnder fM_goalMax fM_different)
          have hPc := hP.mem (fun q h => p9.mem_iff.mpr (List.mem_append_left _ h))
          have hDc := (hD.perm p9).left
          have hKc : va_K (dC, dI) vwCl (tX kX) _ := hK.sub [0, 1] rfl
          have hFc := freeG p9 hD hS hA
          refine va_callv (va_runV (As := [.ref qS292]) (rest := []) ⟨hx, hb, hml, hown, hts⟩ (Met.sV (m_X11_putText l dC dI hX aX kX hT hM fX_ready fX_sheet_j61 dX_sheet_j61 nX_sheet_j61 iX_sheetLength_j61 xX_reader xX_solver xX_prover xX_values xX_clauses xX_nets qS292 3 (fun j => ([32, 59, 10] : List Int32).getD j 0) b_fX_sheet_j61 (by first | exact b_nX_sheet_j61 | with_reducible assumption | exact ⟨by omega, by omega⟩ | assumption) (by first | exact b_iX_sheetLength_j61 | with_reducible assumption | exact ⟨by omega, by omega⟩ | assumption) (by first | with_reducible assumption | omega | (rw [iI_t (by omega) (by omega)]; omega) | (have h7 : (0 : Int32).toInt = 0 := (by decide); omega)) (by decide) H.size) H) (cwV 1 hts gwsMX11_putGoal_0 rfl rfl rfl (by decide +kernel) ⟨by first | decide +kernel | (dsimp only [headSpec] <;> omega), by first | decide +kernel | (dsimp only [headSpec] <;> omega)⟩) ⟨fun a U g mk q => by obtain ⟨q0, qh, q1, qP, qK, qD, qE⟩ := q; exact ⟨q0, qh, q1, qP, va_K.moved (u := U) (U := U.calling g mk a) (Vm.Alike.refl U.vm) qK, qD, qE.same rfl⟩, va_recv hK hP (ci := 11) (q0 := 0) rfl rfl, fun U hU9 hW => ⟨rfl, hU9, by rw [hU9], by rw [hU9]; exact hPc, va_K.moved hW.alike hKc, hDc.weaken (fun _ _ _ _ => trivial), by rw [hU9]; exact (((hSS292 : (StrE qS292 3 (fun j => ([32, 59, 10] : List Int32).getD j 0)) A s s.heap).kept hS.2.1).narrow (fun q h => hFc q h)).warm hW⟩⟩ rfl rfl hl.1 rfl (lv_room (Nat.le_of_ble_eq_true rfl)) dX11_putGoal_191 ⟨by first | decide +kernel | (dsimp only [headSpec] <;> omega), by first | decide +kernel | (dsimp only [headSpec] <;> omega)⟩) hS (fun q _ h => hFc q h) hFc (fun u t9_ H locs ht hvm hw9 hB9 hz1 hk1 hS => ?_)
          revert u hw9 hB9
          refine fz_p4 ?_
          intro fX_sheet_248 dX_sheet_248 nX_sheet_248 iX_sheetLength_248 hw9 hB9
          try dsimp only at hw9 hB9
          revert hw9
          refine fz_a6 ?_
          intro b_fX_sheet_248 b_nX_sheet_248 b_iX_sheetLength_248 b_shl_248 f248_0 f248_1
          have hg1 := hB9.1.2.2.1
          rw [ht] at hg1
          have hg2 := hB9.1.2.2.2
          rw [ht] at hg2
          have hSz := hB9.2
          rw [ht] at hSz
          have p8 := cj_2_0 (WX hX aX kX hT hM fX_ready fX_sheet_248 dX_sheet_248 nX_sheet_248 iX_sheetLength_248 xX_reader xX_solver xX_prover xX_values xX_clauses xX_nets) (WM hM aM kM iM_stands iM_variables iM_rows iM_goals iM_differents iM_cases fM_from fM_to fM_whole fM_ways iM_plainRows fM_plainRow fM_kept fM_goalOver fM_goalUnder fM_goalMax fM_different)
          obtain ⟨hP, hD⟩ := frameG p9 p8 hP hD hk1 hFc (fz_P ht hB9.1.1) hB9.1.2.1
          have hz9 : H.size ≤ s.heap.size + (nX_sheet_248 / 32 - (nX_sheet / 32)) := by (try dsimp only at hg1); omega
          have hn9 : nS s.heap.size H ≤ (2 * nX_sheet_248 - (2 * nX_sheet)) := by rw [hSz.n hS0]; (try dsimp only at hg2); omega
          refine W.tight (cells2 := (nX_sheet_248 / 32 - (nX_sheet / 32))) (slots2 := (2 * nX_sheet_248 - (2 * nX_sheet))) hz9 hn9 ?_
          clear hz9 hn9 hz0 hn0 hS0 hSz hg1 hg2
          refine W.known (fun hz9 hn9 => ?_)
          refine W.widen (k := 9376) (n := 660000) (by omega) (by omega) ?_
          exact W.vret hx hb hr (fun t9_ ht hW => ⟨⟨(fX_sheet_248, dX_sheet_248, nX_sheet_248, iX_sheetLength_248), rfl, ⟨b_fX_sheet_248, (by (try dsimp only); exact (by first | exact b_nX_sheet_248 | with_reducible assumption | exact ⟨by omega, by omega⟩ | assumption)), b_iX_sheetLength_248, (by (try dsimp only); exact (by first | with_reducible assumption | omega | (rw [iI_t (by omega) (by omega)]; omega) | (have h7 : (0 : Int32).toInt = 0 := (by decide); omega))), (by (try dsimp only); omega), (by (try dsimp only); first | omega | (rw [iI_t (by omega) (by omega)]; omega))⟩, by rw [ht]; exact hP, hD, by rw [ht]; (try dsimp only); omega, by rw [ht]; (try dsimp only); omega⟩, hS.F ht⟩) hS.2.2 dX11_putGoal_194
      · have t_44 : ¬ l4_x35_1.toInt ≥ iM_variables.toInt := toI_nge c_44 rfl rfl
        refine lv_aload_n hx hb dX11_putGoal_47 rfl (lv_at hl 3 rfl) ?_
        refine va_get (D := (dC, dI)) (ci := 11) (v := .ref (hM 0)) (C := RX11) (T := TX11) (N := 11) hx hb hts iwsMX11_putGoal_in11 hown hK hP 0 rfl rfl 2 (by decide) (hts _ hm_m_X11_putGoal_0) (fun _ h9 => h9) rfl dX11_putGoal_48 ?_
        refine va_get (D := (dC, dI)) (ci := 1) (v := .ref (aM 6)) (C := RX1) (T := TX1) (N := 17) hx hb hts iwsMX11_putGoal_in1 hown hK hP 3 rfl rfl 13 (by decide) (hts _ hm_m_X11_putGoal_2) (fun _ h9 => h9) rfl dX11_putGoal_51 ?_
        refine lv_iload_n hx hb dX11_putGoal_54 rfl (lv_at hl 2 rfl) ?_
        refine lv_iload hx hb dX11_putGoal_55 (lv_at hl 0 rfl) ?_
        refine lv_iadd hx hb dX11_putGoal_57 ?_
        refine lv_topi (fun y249 hy249 => ?_)
        obtain rfl : (iI ((p1.toInt * 9) + l4_x35_1.toInt)) = y249 := (hy249.trans (iI_add2 rfl (iI_of _))).symm
        refine lv_iconst (v := 1) hx hb dX11_putGoal_58 (by decide) ?_
        refine lv_iadd hx hb dX11_putGoal_59 ?_
        refine lv_topi (fun y250 hy250 => ?_)
        obtain rfl : (iI (((p1.toInt * 9) + l4_x35_1.toInt) + 1)) = y250 := (hy250.trans (iI_add2 rfl (by decide : (1 : Int32) = iI 1))).symm
        refine va_iald (cA := kM 6) (n := 27) (f := fM_goalOver) hx hb hK hP 10 8 rfl rfl (vp_iI (Int.le_trans (by decide) (Int.add_le_add (Int.add_le_add (Int.mul_le_mul_of_nonneg_right (b_p1.1) (by decide)) (b_l4_x35_1.1)) (Int.le_refl _))) (by omega) (by decide)) dX11_putGoal_60 ?_
        refine lv_topi (fun v251 hv251 => ?_)
        clear hv251
        refine lv_istore hx hb dX11_putGoal_61 hl (by decide) rfl (fun ls (hl : lv_has ls _ ([(5, .int v251), (4, .int l4_x35_1), (3, .int l3_x35_1), (2, .int (iI (p1.toInt * 9))), (0, .ref (hX 0)), (1, .int p1)])) => ?_)
        refine lv_iload hx hb dX11_putGoal_63 (lv_at hl 0 rfl) ?_
        refine W.known (fun hzk hnk => ?_)
        refine W.widen (k := 1875) (n := 120000) (by omega) (by omega) ?_
        refine W.cut (pc := 93) (fun H locs ls stk => ∃ (fX_sheet_j64 : Nat → Int32) (dX_sheet_j64 : Nat) (nX_sheet_j64 : Nat) (iX_sheetLength_j64 : Int32) (l3_j64 : Int32), (∀ q : Nat, (-128) ≤ (fX_sheet_j64 q).toInt ∧ (fX_sheet_j64 q).toInt ≤ 127) ∧ (64 ≤ nX_sheet_j64 ∧ nX_sheet_j64 ≤ 60000) ∧ (0 ≤ iX_sheetLength_j64.toInt ∧ iX_sheetLength_j64.toInt ≤ 30000) ∧ (0 ≤ l3_j64.toInt ∧ l3_j64.toInt ≤ 1) ∧ (iX_sheetLength_j64.toInt ≤ ((nX_sheet_j64 : Nat) : Int)) ∧ (iX_sheetLength.toInt ≤ iX_sheetLength_j64.toInt) ∧ (nX_sheet ≤ nX_sheet_j64) ∧ (H.size + (nX_sheet / 32) ≤ s.heap.size + (nX_sheet_j64 / 32) ∧ nS s.heap.size H + (2 * nX_sheet) ≤ (2 * nX_sheet_j64)) ∧  stk = [] ∧ va_P (dC, dI) vwCl (WX hX aX kX hT hM fX_ready fX_sheet_j64 dX_sheet_j64 nX_sheet_j64 iX_sheetLength_j64 xX_reader xX_solver xX_prover xX_values xX_clauses xX_nets ++ (WM hM aM kM iM_stands iM_variables iM_rows iM_goals iM_differents iM_cases fM_from fM_to fM_whole fM_ways iM_plainRows fM_plainRow fM_kept fM_goalOver fM_goalUnder fM_goalMax fM_different)) H ∧ va_D A (WX hX aX kX hT hM fX_ready fX_sheet_j64 dX_sheet_j64 nX_sheet_j64 iX_sheetLength_j64 xX_reader xX_solver xX_prover xX_values xX_clauses xX_nets ++ (WM hM aM kM iM_stands iM_variables iM_rows iM_goals iM_differents iM_cases fM_from fM_to fM_whole fM_ways iM_plainRows fM_plainRow fM_kept fM_goalOver fM_goalUnder fM_goalMax fM_different)) ∧ va_S A s.heap H locs ∧ lv_has ls 6 [(5, .int v251), (4, .int l4_x35_1), (3, .int l3_j64), (2, .int (iI (p1.toInt * 9))), (0, .ref (hX 0)), (1, .int p1)]) (fun join64 => ?_) ?_
        · refine W.tight (cells2 := (nX_sheet_x35_1 / 32 - (nX_sheet / 32))) (slots2 := (2 * nX_sheet_x35_1 - (2 * nX_sheet))) hzk hnk ?_
          refine lv_if_eq (tgt := 93) hx hb dX11_putGoal_65 (by decide) (fun c_65 => ?_) (fun c_65 => ?_)
          · have t_65 : v251.toInt = 0 := toI_eq c_65 rfl (by decide : (0 : Int32).toInt = 0)
            have hl : lv_has _ _ ([(5, .int v251), (4, .int l4_x35_1), (3, .int l3_x35_1), (2, .int (iI (p1.toInt * 9))), (0, .ref (hX 0)), (1, .int p1)]) := lv_sub hl [0, 1, 2, 3, 4, 5] rfl
            refine W.known (fun hza hna => ?_)
            refine W.widen (k := 1875) (n := 120000) (by omega) (by omega) ?_
            exact join64 _ _ _ _ ⟨fX_sheet_x35_1, dX_sheet_x35_1, nX_sheet_x35_1, iX_sheetLength_x35_1, l3_x35_1, b_fX_sheet_x35_1, (by first | exact b_nX_sheet_x35_1 | with_reducible assumption | exact ⟨by omega, by omega⟩ | assumption), (b_iX_sheetLength_x35_1), (b_l3_x35_1), (by first | with_reducible assumption | omega | (rw [iI_t (by omega) (by omega)]; omega) | (have h7 : (0 : Int32).toInt = 0 := (by decide); omega)), (show iX_sheetLength.toInt ≤ iX_sheetLength_x35_1.toInt from by omega), (show nX_sheet ≤ nX_sheet_x35_1 from by omega), ⟨by omega, by omega⟩, rfl, hP, hD, hS, hl⟩
          · have t_65 : ¬ v251.toInt = 0 := toI_neq c_65 rfl (by decide : (0 : Int32).toInt = 0)
            refine lv_aload_n hx hb dX11_putGoal_68 rfl (lv_at hl 4 rfl) ?_
            refine lv_iload hx hb dX11_putGoal_69 (lv_at hl 0 rfl) ?_
            refine lv_aload_n hx hb dX11_putGoal_71 rfl (lv_at hl 4 rfl) ?_
            refine va_get (D := (dC, dI)) (ci := 11) (v := .ref (hM 0)) (C := RX11) (T := TX11) (N := 11) hx hb hts iwsMX11_putGoal_in11 hown hK hP 0 rfl rfl 2 (by decide) (hts _ hm_m_X11_putGoal_0) (fun _ h9 => h9) rfl dX11_putGoal_72 ?_
            refine va_get (D := (dC, dI)) (ci := 1) (v := .ref (aM 7)) (C := RX1) (T := TX1) (N := 17) hx hb hts iwsMX11_putGoal_in1 hown hK hP 3 rfl rfl 14 (by decide) (hts _ hm_m_X11_putGoal_3) (fun _ h9 => h9) rfl dX11_putGoal_75 ?_
            refine lv_iload_n hx hb dX11_putGoal_78 rfl (lv_at hl 3 rfl) ?_
            refine lv_iload hx hb dX11_putGoal_79 (lv_at hl 1 rfl) ?_
            refine lv_iadd hx hb dX11_putGoal_81 ?_
            refine lv_topi (fun y256 hy256 => ?_)
            obtain rfl : (iI ((p1.toInt * 9) + l4_x35_1.toInt)) = y256 := (hy256.trans (iI_add2 rfl (iI_of _))).symm
            refine lv_iconst (v := 1) hx hb dX11_putGoal_82 (by decide) ?_
            refine lv_iadd hx hb dX11_putGoal_83 ?_
            refine lv_topi (fun y257 hy257 => ?_)
            obtain rfl : (iI (((p1.toInt * 9) + l4_x35_1.toInt) + 1)) = y257 := (hy257.trans (iI_add2 rfl (by decide : (1 : Int32) = iI 1))).symm
            refine va_iald (cA := kM 7) (n := 27) (f := fM_goalUnder) hx hb hK hP 11 9 rfl rfl (vp_iI (Int.le_trans (by decide) (Int.add_le_add (Int.add_le_add (Int.mul_le_mul_of_nonneg_right (b_p1.1) (by decide)) (b_l4_x35_1.1)) (Int.le_refl _))) (by omega) (by decide)) dX11_putGoal_84 ?_
            refine lv_topi (fun v258 hv258 => ?_)
            clear hv258
            refine lv_iload hx hb dX11_putGoal_85 (lv_at hl 1 rfl) ?_
            refine lv_iload_n hx hb dX11_putGoal_87 rfl (lv_at hl 2 rfl) ?_
            refine W.known (fun hz0 hn0 => ?_)
            have hS0 := hS.1
            have p9 := cj_2_0 (WX hX aX kX hT hM fX_ready fX_sheet_x35_1 dX_sheet_x35_1 nX_sheet_x35_1 iX_sheetLength_x35_1 xX_reader xX_solver xX_prover xX_values xX_clauses xX_nets) (WM hM aM kM iM_stands iM_variables iM_rows iM_goals iM_differents iM_cases fM_from fM_to fM_whole fM_ways iM_plainRows fM_plainRow fM_kept fM_goalOver fM_goalUnder fM_goalMax fM_different)
            have hPc := hP.mem (fun q h => p9.mem_iff.mpr (List.mem_append_left _ h))
            have hDc := (hD.perm p9).left
            have hKc : va_K (dC, dI) vwCl (tX kX) _ := hK.sub [0, 1] rfl
            have hFc := freeG p9 hD hS hA
            refine va_callv (va_runV (As := [.int v251, .int v258, .int l4_x35_1, .int l3_x35_1]) (rest := []) ⟨hx, hb, hml, hown, hts⟩ (Met.sV (m_X11_putTimes l hst dC dI hX aX kX hT hM fX_ready fX_sheet_x35_1 dX_sheet_x35_1 nX_sheet_x35_1 iX_sheetLength_x35_1 xX_reader xX_solver xX_prover xX_values xX_clauses xX_nets v251 v258 l4_x35_1 l3_x35_1 b_fX_sheet_x35_1 (by first | exact b_nX_sheet_x35_1 | with_reducible assumption | exact ⟨by omega, by omega⟩ | assumption) (b_iX_sheetLength_x35_1) (by first | with_reducible assumption | omega | (rw [iI_t (by omega) (by omega)]; omega) | (have h7 : (0 : Int32).toInt = 0 := (by decide); omega)) H.size) H) (cwV 4 hts gwsMX11_putGoal_1 rfl rfl rfl (by decide +kernel) ⟨by first | decide +kernel | (dsimp only [headSpec] <;> omega), by first | decide +kernel | (dsimp only [headSpec] <;> omega)⟩) ⟨fun a U g mk q => by obtain ⟨q0, qh, q1, qP, qK, qD, qE⟩ := q; exact ⟨q0, qh, q1, qP, va_K.moved (u := U) (U := U.calling g mk a) (Vm.Alike.refl U.vm) qK, qD, qE.call⟩, va_recv hK hP (ci := 11) (q0 := 0) rfl rfl, fun U hU9 hW => ⟨rfl, hU9, by rw [hU9], by rw [hU9]; exact hPc, va_K.moved hW.alike hKc, hDc.weaken (fun _ _ _ _ => trivial), by rw [hU9]; exact (((hE : CE A s s.heap).kept hS.2.1).narrow (fun q h => hFc q h)).warm hW⟩⟩ rfl rfl hl.1 rfl (lv_room (Nat.le_of_ble_eq_true rfl)) dX11_putGoal_88 ⟨by first | decide +kernel | (dsimp only [headSpec] <;> omega), by first | decide +kernel | (dsimp only [headSpec] <;> omega)⟩) hS (fun q _ h => hFc q h) hFc (fun u t9_ H locs ht hvm hw9 hB9 hz1 hk1 hS => ?_)
            revert u hw9 hB9
            refine fz_p4 ?_
            intro fX_sheet_259 dX_sheet_259 nX_sheet_259 iX_sheetLength_259 hw9 hB9
            try dsimp only at hw9 hB9
            revert hw9
            refine fz_a6 ?_
            intro b_fX_sheet_259 b_nX_sheet_259 b_iX_sheetLength_259 b_shl_259 f259_0 f259_1
            have hg1 := hB9.1.2.2.1
            rw [ht] at hg1
            have hg2 := hB9.1.2.2.2
            rw [ht] at hg2
            have hSz := hB9.2
            rw [ht] at hSz
            have p8 := cj_2_0 (WX hX aX kX hT hM fX_ready fX_sheet_259 dX_sheet_259 nX_sheet_259 iX_sheetLength_259 xX_reader xX_solver xX_prover xX_values xX_clauses xX_nets) (WM hM aM kM iM_stands iM_variables iM_rows iM_goals iM_differents iM_cases fM_from fM_to fM_whole fM_ways iM_plainRows fM_plainRow fM_kept fM_goalOver fM_goalUnder fM_goalMax fM_different)
            obtain ⟨hP, hD⟩ := frameG p9 p8 hP hD hk1 hFc (fz_P ht hB9.1.1) hB9.1.2.1
            have hz9 : H.size ≤ s.heap.size + (nX_sheet_259 / 32 - (nX_sheet / 32)) := by (try dsimp only at hg1); omega
            have hn9 : nS s.heap.size H ≤ (2 * nX_sheet_259 - (2 * nX_sheet)) := by rw [hSz.n hS0]; (try dsimp only at hg2); omega
            refine W.tight (cells2 := (nX_sheet_259 / 32 - (nX_sheet / 32))) (slots2 := (2 * nX_sheet_259 - (2 * nX_sheet))) hz9 hn9 ?_
            clear hz9 hn9 hz0 hn0 hS0 hSz hg1 hg2
            refine lv_iconst (v := 0) hx hb dX11_putGoal_91 (by decide) ?_
            refine lv_istore_n hx hb dX11_putGoal_92 rfl hl (by decide) rfl (fun ls (hl : lv_has ls _ ([(3, .int 0), (5, .int v251), (4, .int l4_x35_1), (2, .int (iI (p1.toInt * 9))), (0, .ref (hX 0)), (1, .int p1)])) => ?_)
            have hl : lv_has _ _ ([(5, .int v251), (4, .int l4_x35_1), (3, .int 0), (2, .int (iI (p1.toInt * 9))), (0, .ref (hX 0)), (1, .int p1)]) := lv_sub hl [1, 2, 0, 3, 4, 5] rfl
            refine W.known (fun hza hna => ?_)
            refine W.widen (k := 1875) (n := 120000) (by omega) (by omega) ?_
            exact join64 _ _ _ _ ⟨fX_sheet_259, dX_sheet_259, nX_sheet_259, iX_sheetLength_259, 0, b_fX_sheet_259, (by first | exact b_nX_sheet_259 | with_reducible assumption | exact ⟨by omega, by omega⟩ | assumption), (b_iX_sheetLength_259), (show 0 ≤ (0 : Int32).toInt ∧ (0 : Int32).toInt ≤ 1 from by decide), (by first | with_reducible assumption | omega | (rw [iI_t (by omega) (by omega)]; omega) | (have h7 : (0 : Int32).toInt = 0 := (by decide); omega)), (show iX_sheetLength.toInt ≤ iX_sheetLength_259.toInt from by omega), (show nX_sheet ≤ nX_sheet_259 from by omega), ⟨by omega, by omega⟩, rfl, hP, hD, hS, hl⟩
        · intro H locs ls stk
          refine fz_e5 ?_
          intro fX_sheet_j64 dX_sheet_j64 nX_sheet_j64 iX_sheetLength_j64 l3_j64
          refine fz_a13 ?_
          intro b_fX_sheet_j64 b_nX_sheet_j64 b_iX_sheetLength_j64 b_l3_j64 b_shl_j64 hjx hgm0_j64 hzn9_7 hst9_8 hP hD hS hl
          have hzj := hzn9_7.1
          have hnj := hzn9_7.2
          clear hzn9_7
          subst hst9_8
          refine W.tight (cells2 := (nX_sheet_j64 / 32 - (nX_sheet / 32))) (slots2 := (2 * nX_sheet_j64 - (2 * nX_sheet))) (tg1 hzj hS.1) (tg2 hnj) ?_
          refine lv_iinc (v := (iI (l4_x35_1.toInt + 1))) hx hb dX11_putGoal_93 hl (k := 1) rfl (iI_add2 (iI_of _) (by decide : (1 : Int32) = iI 1)) (by decide) rfl (fun ls (hl : lv_has ls _ ([(4, .int (iI (l4_x35_1.toInt + 1))), (5, .int v251), (3, .int l3_j64), (2, .int (iI (p1.toInt * 9))), (0, .ref (hX 0)), (1, .int p1)])) => ?_)
          refine lv_goto (tgt := 35) hx hb dX11_putGoal_96 (by decide) ?_
          have hl : lv_has _ _ ([(4, .int (iI (l4_x35_1.toInt + 1))), (3, .int l3_j64), (2, .int (iI (p1.toInt * 9))), (0, .ref (hX 0)), (1, .int p1)]) := lv_sub hl [0, 2, 3, 4, 5] rfl
          exact ihx35_1 fX_sheet_j64 dX_sheet_j64 nX_sheet_j64 iX_sheetLength_j64 (iI (l4_x35_1.toInt + 1)) l3_j64 _ _ _ b_fX_sheet_j64 (by first | exact b_nX_sheet_j64 | with_reducible assumption | exact ⟨by omega, by omega⟩ | assumption) (b_iX_sheetLength_j64) (iI_rng (Int.le_trans (by decide) (Int.add_le_add (b_l4_x35_1.1) (Int.le_refl _))) (by omega) (by decide) (by decide)) (b_l3_j64) (by first | with_reducible assumption | omega | (rw [iI_t (by omega) (by omega)]; omega) | (have h7 : (0 : Int32).toInt = 0 := (by decide); omega)) (show iX_sheetLength.toInt ≤ iX_sheetLength_j64.toInt from by omega) (show nX_sheet ≤ nX_sheet_j64 from by omega) (by have e9 : ((iI (l4_x35_1.toInt + 1))).toInt = (l4_x35_1.toInt + 1) := (iI_t (Int.le_trans (by decide) (Int.add_le_add (b_l4_x35_1.1) (Int.le_refl _))) (Int.le_trans (Int.add_le_add (b_l4_x35_1.2) (Int.le_refl _)) (by decide))); omega) hP hD hS hl
end

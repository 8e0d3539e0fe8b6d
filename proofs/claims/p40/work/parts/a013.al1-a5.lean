section
/-! rows that grow -/
theorem Met.sV {l : Launch} {y : MethodName} {ws : List Cond} {rm : Room} {av : List Value} {P0 : State → Prop} {mc ms : Nat} {fr : Addr → Prop} {S : Type} {φ : S → Prop} {B : S → State → Prop} {A : Nat → Prop} (h : Met l y ws rm (va_Pc av P0) (va_Qv φ B A) mc ms fr) (H0 : Heap) : Met l y ws rm (va_Pc av (fun U => U.heap = H0 ∧ P0 U)) (va_Qv φ (fun u t => B u t ∧ SzK H0 t.heap) A) mc ms fr := by
  intro p e h1 h2 h3 s m args below hf ha hP hK
  obtain ⟨n, o, q1, q2, q3, ⟨⟨u, q4, q5, q6⟩, q7⟩, q8⟩ := h p e h1 h2 h3 s m args below hf ha ⟨hP.1, hP.2.2⟩ hK
  obtain ⟨L, q9, _⟩ := id q8
  exact ⟨n, o, q1, q2, q3, ⟨⟨u, q4, q5, q6, by rw [← hP.2.1]; exact SzK.of q9⟩, q7⟩, q8⟩
theorem Met.sI {l : Launch} {y : MethodName} {ws : List Cond} {rm : Room} {av : List Value} {P0 : State → Prop} {mc ms : Nat} {fr : Addr → Prop} {S : Type} {φ : Int32 → S → Prop} {B : S → State → Prop} {A : Nat → Prop} (h : Met l y ws rm (va_Pc av P0) (va_Qi φ B A) mc ms fr) (H0 : Heap) : Met l y ws rm (va_Pc av (fun U => U.heap = H0 ∧ P0 U)) (va_Qi φ (fun u t => B u t ∧ SzK H0 t.heap) A) mc ms fr := by
  intro p e h1 h2 h3 s m args below hf ha hP hK
  obtain ⟨n, o, q1, q2, q3, ⟨⟨r, u, q4, q5, q6⟩, q7⟩, q8⟩ := h p e h1 h2 h3 s m args below hf ha ⟨hP.1, hP.2.2⟩ hK
  obtain ⟨L, q9, _⟩ := id q8
  exact ⟨n, o, q1, q2, q3, ⟨⟨r, u, q4, q5, q6, by rw [← hP.2.1]; exact SzK.of q9⟩, q7⟩, q8⟩
theorem vx_Met.sV {l : Launch} {y : MethodName} {ws : List Cond} {rm : Room} {av : List Value} {P0 : State → Prop} {XC : String → State → State → Prop} {mc ms : Nat} {fr : Addr → Prop} {S : Type} {φ : S → Prop} {B : S → State → Prop} {A : Nat → Prop} (h : vx_Met l y ws rm (va_Pc av P0) (va_Qv φ B A) XC mc ms fr) (H0 : Heap) : vx_Met l y ws rm (va_Pc av (fun U => U.heap = H0 ∧ P0 U)) (va_Qv φ (fun u t => B u t ∧ SzK H0 t.heap) A) XC mc ms fr := by
  intro p e h1 h2 h3 s m args below hf ha hP hK
  obtain ⟨n, o, q1, q2, q3, q4⟩ := h p e h1 h2 h3 s m args below hf ha ⟨hP.1, hP.2.2⟩ hK
  refine ⟨n, o, q1, q2, q3, ?_⟩
  rcases q4 with ⟨⟨⟨u, q4, q5, q6⟩, q7⟩, q8⟩ | q4
  · obtain ⟨L, q9, _⟩ := id q8
    exact Or.inl ⟨⟨⟨u, q4, q5, q6, by rw [← hP.2.1]; exact SzK.of q9⟩, q7⟩, q8⟩
  · exact Or.inr q4
theorem va_K.cls {D : va_G} {cl : List vw_C} {tys : List (ClassId × FieldType)} {U : State} (h : va_K D cl tys U) {i j : Nat} {a b : ClassId} {ty : FieldType} (hi : tys[i]? = some (a, ty)) (hj : tys[j]? = some (b, ty)) (hp : ty = .int ∨ ty = .byte ∨ ty = .long) : b = a := by
  have r1 := (h.2 i _ hi).2
  have r2 := (h.2 j _ hj).2
  rcases hp with rfl | rfl | rfl
  · exact Option.some.inj ((show U.vm.findClass _ = some b from r2).symm.trans r1)
  · exact Option.some.inj ((show U.vm.findClass _ = some b from r2).symm.trans r1)
  · exact Option.some.inj ((show U.vm.findClass _ = some b from r2).symm.trans r1)
theorem fits_b {x : Int32} (h : -128 ≤ x.toInt ∧ x.toInt ≤ 127) : fits .byte (.int x) = true := by
  show (decide (-128 ≤ x) && decide (x ≤ 127)) = true
  rw [Bool.and_eq_true, decide_eq_true_iff, decide_eq_true_iff, Int32.le_iff_toInt_le, Int32.le_iff_toInt_le]
  exact h
theorem clampN {x : Int32} {X : Int} {k : Nat} (hx : x.toInt = X) (hk : (k : Int) = X) : x.toNatClampNeg = k := by
  show x.toInt.toNat = k
  omega
theorem SzK.n {n : Nat} {H H1 : Heap} (h : SzK H H1) (hn : n ≤ H.size) : nS n H1 = nS n H + nS H.size H1 := nS_split (k := 0) h hn
theorem nar_b (x : Int32) : -128 ≤ (vp_nar FieldType.byte x).toInt ∧ (vp_nar FieldType.byte x).toInt ≤ 127 := by
  show -128 ≤ (x.toInt8.toInt32).toInt ∧ (x.toInt8.toInt32).toInt ≤ 127
  rw [Int8.toInt_toInt32]
  exact ⟨Int8.le_toInt _, by have := Int8.toInt_lt (x.toInt8); omega⟩
theorem updb_r {f : Nat → Int32} (h : ∀ q : Nat, -128 ≤ (f q).toInt ∧ (f q).toInt ≤ 127) {x : Int32} {n : Nat} : ∀ q : Nat, -128 ≤ (upd f n (vp_nar FieldType.byte x) q).toInt ∧ (upd f n (vp_nar FieldType.byte x) q).toInt ≤ 127 := upd_r h (nar_b x)
theorem tg1 {h s c c0 : Nat} (h1 : h + c0 ≤ s + c) (h2 : s ≤ h) : h ≤ s + (c - c0) := by omega
theorem tg2 {n c c0 : Nat} (h : n + c0 ≤ c) : n ≤ c - c0 := by omega
end
section
def WH (hH : Nat → Nat) (aH : Nat → Nat) (kH : Nat → ClassId) (nH : Nat) (fH : Nat → Int32) : va_W := [(aH 0, .inl (kH 0, nH, .inl fH))]
def tH (kH : Nat → ClassId) : List (ClassId × FieldType) := [(kH 0, .byte)]
theorem dJ7_copyOf_9075b_0 : decode cJ7_copyOf_9075b 0 = .ok (.iload_n 1, 1) := dk_27 (by decide +kernel)
theorem dJ7_copyOf_9075b_1 : decode cJ7_copyOf_9075b 1 = .ok (.aload_n 0, 1) := dk_42 (by decide +kernel)
theorem dJ7_copyOf_9075b_2 : decode cJ7_copyOf_9075b 2 = .ok (.arraylength, 1) := dk_190 (by decide +kernel)
theorem dJ7_copyOf_9075b_3 : decode cJ7_copyOf_9075b 3 = .ok (.if_icmp .ne 11, 3) := dk_160 (by decide +kernel)
theorem dJ7_copyOf_9075b_14 : decode cJ7_copyOf_9075b 14 = .ok (.iload_n 1, 1) := dk_27 (by decide +kernel)
theorem dJ7_copyOf_9075b_15 : decode cJ7_copyOf_9075b 15 = .ok (.newarray .byte, 2) := by decide +kernel
theorem dJ7_copyOf_9075b_17 : decode cJ7_copyOf_9075b 17 = .ok (.astore_n 2, 1) := dk_77 (by decide +kernel)
theorem dJ7_copyOf_9075b_18 : decode cJ7_copyOf_9075b 18 = .ok (.aload_n 0, 1) := dk_42 (by decide +kernel)
theorem dJ7_copyOf_9075b_19 : decode cJ7_copyOf_9075b 19 = .ok (.iconst 0, 1) := dk_3 (by decide +kernel)
theorem dJ7_copyOf_9075b_20 : decode cJ7_copyOf_9075b 20 = .ok (.aload_n 2, 1) := dk_44 (by decide +kernel)
theorem dJ7_copyOf_9075b_21 : decode cJ7_copyOf_9075b 21 = .ok (.iconst 0, 1) := dk_3 (by decide +kernel)
theorem dJ7_copyOf_9075b_22 : decode cJ7_copyOf_9075b 22 = .ok (.aload_n 0, 1) := dk_42 (by decide +kernel)
theorem dJ7_copyOf_9075b_23 : decode cJ7_copyOf_9075b 23 = .ok (.arraylength, 1) := dk_190 (by decide +kernel)
theorem dJ7_copyOf_9075b_24 : decode cJ7_copyOf_9075b 24 = .ok (.iload_n 1, 1) := dk_27 (by decide +kernel)
theorem dJ7_copyOf_9075b_25 : decode cJ7_copyOf_9075b 25 = .ok (.invokestatic 304, 3) := dk_184 (by decide +kernel)
theorem dJ7_copyOf_9075b_28 : decode cJ7_copyOf_9075b 28 = .ok (.invokestatic 150, 3) := dk_184 (by decide +kernel)
theorem dJ7_copyOf_9075b_31 : decode cJ7_copyOf_9075b 31 = .ok (.aload_n 2, 1) := dk_44 (by decide +kernel)
theorem dJ7_copyOf_9075b_32 : decode cJ7_copyOf_9075b 32 = .ok (.areturn, 1) := dk_176 (by decide +kernel)
def wsMJ7_copyOf_9075b : List Cond := .code yJ7_copyOf_9075b cJ7_copyOf_9075b 3 (some (.array .byte)) :: ([.arrayClass .byte, .methodLink RJ7 304 Lib.Math.min.name, .static Lib.Math.min.name, .initialized "java/lang/Math", .code Lib.Math.min.name Lib.Math.min.code 2 (some .int), .methodLink RJ7 150 arraycopyName, .native arraycopyName, .static arraycopyName, .initialized "java/lang/System"])
theorem gdwsMJ7_copyOf_9075b : wsMJ7_copyOf_9075b.all goodWord = true := gdC rfl (by decide +kernel : ([.arrayClass .byte, .methodLink RJ7 304 Lib.Math.min.name, .static Lib.Math.min.name, .initialized "java/lang/Math", .code Lib.Math.min.name Lib.Math.min.code 2 (some .int), .methodLink RJ7 150 arraycopyName, .native arraycopyName, .static arraycopyName, .initialized "java/lang/System"] : List Cond).all goodWord = true)
set_option maxHeartbeats 4000000 in
set_option maxRecDepth 100000 in
/-- Arrays.copyOf of bytes -/
theorem m_J7_copyOf_9075b (l : Launch) (dC : Nat → ClassId) (dI : Nat → Nat → Nat) (hH : Nat → Nat) (aH : Nat → Nat) (kH : Nat → ClassId) (nH : Nat) (fH : Nat → Int32) (p1 : Int32) (nn : Nat) (b_nH : 0 ≤ nH ∧ nH ≤ 1000000) (b_fH : ∀ q : Nat, (-128) ≤ (fH q).toInt ∧ (fH q).toInt ≤ 127) (hp1 : p1.toInt = ((nn : Nat) : Int)) (hne : nH < nn) (hle : nn ≤ 1000000) (sz : Nat) : Met l yJ7_copyOf_9075b wsMJ7_copyOf_9075b ({ frames := 1, cells := 1, slots := nn, locals := 18 }) (va_Pc [.ref (aH 0), .int p1] (fun U => U.heap.size = sz ∧ va_P (dC, dI) vwCl (WH hH aH kH nH fH) U.heap ∧ va_K (dC, dI) vwCl (tH kH) U ∧ va_D (fun _ => True) (WH hH aH kH nH fH))) (va_Qr (fun (u : Nat → Int32) => ∀ q : Nat, (-128) ≤ (u q).toInt ∧ (u q).toInt ≤ 127) (fun u ra t => va_P (dC, dI) vwCl ((WH hH aH kH nH fH) ++ [(ra, .inl (kH 0, nn, .inl u))]) t.heap ∧ va_D (va_A (WH hH aH kH nH fH) sz) ((WH hH aH kH nH fH) ++ [(ra, .inl (kH 0, nn, .inl u))])) (va_A (WH hH aH kH nH fH) sz)) 1 nn (va_A (WH hH aH kH nH fH) sz) := by
  refine Met.ofW (cc := cJ7_copyOf_9075b) (maxL := 3) (ret := (some (.array .byte))) (by decide) rfl ?_
  intro p e s m args below meth c s₁ B hml hv
  obtain ⟨rfl, hsz, hP, hK, hD0⟩ := hv
  have hx := B.exec
  have hb := B.bytes
  have hr := B.returns
  have hts := atoms_spec (ws := wsMJ7_copyOf_9075b) B.pre
  have hown : s.vm.findClass RJ7 = some m.cls := findClass_of_methodNamed B.named
  have hlocks := B.notSynchronized
  subst hsz
  have hD := hD0.self (sz := s.heap.size)
  generalize hAe : va_A (WH hH aH kH nH fH) s.heap.size = A at hD ⊢
  have hA : ∀ q : Nat, s.heap.size ≤ q → A q := fun q h => by rw [← hAe]; exact Or.inr h
  have hS : va_S A s.heap s.heap [] := va_S.rf
  have hl := lv_entry ([.ref (aH 0), .int p1]) (n := 3) (Nat.le_of_ble_eq_true rfl)
  rw [lg_entry_eq]
  generalize (lg_sl ([.ref (aH 0), .int p1]) ++ List.replicate (3 - (lg_sl ([.ref (aH 0), .int p1])).length) Slot.unset).toArray = ls at hl ⊢
  have hl : lv_has ls 3 [(0, .ref (aH 0)), (1, .int p1)] := hl
  refine lv_iload_n hx hb dJ7_copyOf_9075b_0 rfl (lv_at hl 1 rfl) ?_
  refine lv_aload_n hx hb dJ7_copyOf_9075b_1 rfl (lv_at hl 0 rfl) ?_
  refine va_alen hx hb hK hP 0 0 rfl rfl (v := (iI ((nH : Nat) : Int))) (iI_nat _) dJ7_copyOf_9075b_2 ?_
  refine lv_icmp_ne (tgt := 14) hx hb dJ7_copyOf_9075b_3 (by decide) (fun c_3 => ?_) (fun c9 => False.elim (by have t9 : p1.toInt = ((nH : Nat) : Int) := toI_nne c9 rfl (iI_t (by omega) (by omega)); omega))
  first | (have t_3 : p1.toInt ≠ ((nH : Nat) : Int) := toI_ne c_3 rfl (iI_t (by omega) (by omega))) | skip
  refine lv_iload_n hx hb dJ7_copyOf_9075b_14 rfl (lv_at hl 1 rfl) ?_
  have hnn : ((nn : Nat) : Int) = p1.toInt := by omega
  refine va_newa (atype := .byte) (ty := .byte) (N' := nn) (a0 := (nn, .inl (fun _ => 0))) hx hb (hts (.arrayClass .byte) (by decide +kernel)) rfl hK hP hD hS hA (fun _ => rfl) (nn_i rfl (by omega)) (clampN rfl hnn) (by show nn * 1 ≤ 536870912; omega) (by first | decide +kernel | (dsimp only [headSpec] <;> omega)) (by first | decide +kernel | (dsimp only [headSpec] <;> omega)) dJ7_copyOf_9075b_15 (fun qn1 cA H hKn hP hD hS => ?_)
  obtain rfl : cA = kH 0 := hKn.cls (i := 0) (j := 1) rfl rfl (by simp)
  clear hKn
  have hP : va_P (dC, dI) vwCl ((WH hH aH kH nH fH) ++ [(qn1, .inl (kH 0, nn, .inl (fun _ => 0)))]) H := hP
  have hD := fz_sd hP (hD) rfl
  refine lv_astore_n hx hb dJ7_copyOf_9075b_17 rfl hl (by decide) rfl (fun ls (hl : lv_has ls _ ([(2, .ref qn1), (0, .ref (aH 0)), (1, .int p1)])) => ?_)
  refine lv_aload_n hx hb dJ7_copyOf_9075b_18 rfl (lv_at hl 1 rfl) ?_
  refine lv_iconst (v := 0) hx hb dJ7_copyOf_9075b_19 (by decide) ?_
  refine lv_aload_n hx hb dJ7_copyOf_9075b_20 rfl (lv_at hl 0 rfl) ?_
  refine lv_iconst (v := 0) hx hb dJ7_copyOf_9075b_21 (by decide) ?_
  refine lv_aload_n hx hb dJ7_copyOf_9075b_22 rfl (lv_at hl 1 rfl) ?_
  refine va_alen hx hb hK hP 0 0 rfl rfl (v := (iI ((nH : Nat) : Int))) (iI_nat _) dJ7_copyOf_9075b_23 ?_
  refine lv_iload_n hx hb dJ7_copyOf_9075b_24 rfl (lv_at hl 2 rfl) ?_
  refine va_mmin hx hb (by rw [hml]; exact hl.1.symm) hown (hts (.methodLink RJ7 304 Lib.Math.min.name) (by decide +kernel)) (hts (.static Lib.Math.min.name) (by decide +kernel)) (hts (.initialized "java/lang/Math") (by decide +kernel)) (hts (.code Lib.Math.min.name Lib.Math.min.code 2 (some .int)) (by decide +kernel)) (by first | decide +kernel | (dsimp only [headSpec] <;> omega)) (Nat.le_of_ble_eq_true rfl) (by first | decide +kernel | (dsimp only [headSpec] <;> omega)) (by first | decide +kernel | (dsimp only [headSpec] <;> omega)) dJ7_copyOf_9075b_25 ?_
  refine lv_topi (fun v2 hv2 => ?_)
  first | (have b_v2 : (v2.toInt ≤ ((nH : Nat) : Int) ∧ v2.toInt ≤ p1.toInt) ∧ (v2.toInt = ((nH : Nat) : Int) ∨ v2.toInt = p1.toInt) := by rw [hv2]; exact min_t (iI_t (by omega) (by omega)) rfl) | skip
  clear hv2
  refine va_copyi hx hb (by rw [hml]; exact hl.1.symm) hown (hts (.methodLink RJ7 150 arraycopyName) (by decide +kernel)) (hts (.native arraycopyName) (by decide +kernel)) (hts (.static arraycopyName) (by decide +kernel)) (hts (.initialized "java/lang/System") (by decide +kernel)) hK hP hD hS 0 1 0 0 rfl rfl rfl rfl rfl (by decide) (by decide) (nn_i rfl (by omega)) (cp_fit (by decide : (0 : Int32).toInt = 0) rfl (by omega) (by omega) (by omega)) (cp_fit (by decide : (0 : Int32).toInt = 0) rfl (by omega) (by omega) (by omega)) (fun i9 h9 => fits_b (b_fH _)) (by dsimp only [headSpec]; omega) (by dsimp only [headSpec]; decide) dJ7_copyOf_9075b_28 (fun H locs hP hD hS => ?_)
  obtain ⟨u3, hu3⟩ : ∃ f9, f9 = va_cpy fH (fun _ => 0) (0 : Int32).toNatClampNeg (0 : Int32).toNatClampNeg (v2).toNatClampNeg := ⟨_, rfl⟩
  have hP : va_P (dC, dI) vwCl ((WH hH aH kH nH fH) ++ [(qn1, .inl (kH 0, nn, .inl u3))]) H := by rw [hu3]; exact hP
  have hD : va_D A ((WH hH aH kH nH fH) ++ [(qn1, .inl (kH 0, nn, .inl u3))]) := by rw [hu3]; exact hD
  have b_u3 : ∀ q : Nat, (-128) ≤ (u3 q).toInt ∧ (u3 q).toInt ≤ 127 := by rw [hu3]; exact cpy_r b_fH (fun _ => by decide)
  clear hu3
  refine lv_aload_n hx hb dJ7_copyOf_9075b_31 rfl (lv_at hl 0 rfl) ?_
  refine W.widen (k := 1) (n := nn) (by omega) (by omega) ?_
  exact W.aret hx hb hr (Or.inr ⟨_, rfl⟩) (Or.inr ⟨_, rfl⟩) (fun t9_ ht hW => ⟨⟨u3, _, rfl, b_u3, by rw [ht]; exact hP, hD⟩, hS.F ht⟩) hS.2.2 dJ7_copyOf_9075b_32
theorem dJ7_copyOf_c38d5_0 : decode cJ7_copyOf_c38d5 0 = .ok (.iload_n 1, 1) := dk_27 (by decide +kernel)
theorem dJ7_copyOf_c38d5_1 : decode cJ7_copyOf_c38d5 1 = .ok (.aload_n 0, 1) := dk_42 (by decide +kernel)
theorem dJ7_copyOf_c38d5_2 : decode cJ7_copyOf_c38d5 2 = .ok (.arraylength, 1) := dk_190 (by decide +kernel)
theorem dJ7_copyOf_c38d5_3 : decode cJ7_copyOf_c38d5 3 = .ok (.if_icmp .ne 11, 3) := dk_160 (by decide +kernel)
theorem dJ7_copyOf_c38d5_14 : decode cJ7_copyOf_c38d5 14 = .ok (.iload_n 1, 1) := dk_27 (by decide +kernel)
theorem dJ7_copyOf_c38d5_15 : decode cJ7_copyOf_c38d5 15 = .ok (.newarray .long, 2) := by decide +kernel
theorem dJ7_copyOf_c38d5_17 : decode cJ7_copyOf_c38d5 17 = .ok (.astore_n 2, 1) := dk_77 (by decide +kernel)
theorem dJ7_copyOf_c38d5_18 : decode cJ7_copyOf_c38d5 18 = .ok (.aload_n 0, 1) := dk_42 (by decide +kernel)
theorem dJ7_copyOf_c38d5_19 : decode cJ7_copyOf_c38d5 19 = .ok (.iconst 0, 1) := dk_3 (by decide +kernel)
theorem dJ7_copyOf_c38d5_20 : decode cJ7_copyOf_c38d5 20 = .ok (.aload_n 2, 1) := dk_44 (by decide +kernel)
theorem dJ7_copyOf_c38d5_21 : decode cJ7_copyOf_c38d5 21 = .ok (.iconst 0, 1) := dk_3 (by decide +kernel)
theorem dJ7_copyOf_c38d5_22 : decode cJ7_copyOf_c38d5 22 = .ok (.aload_n 0, 1) := dk_42 (by decide +kernel)
theorem dJ7_copyOf_c38d5_23 : decode cJ7_copyOf_c38d5 23 = .ok (.arraylength, 1) := dk_190 (by decide +kernel)
theorem dJ7_copyOf_c38d5_24 : decode cJ7_copyOf_c38d5 24 = .ok (.iload_n 1, 1) := dk_27 (by decide +kernel)
theorem dJ7_copyOf_c38d5_25 : decode cJ7_copyOf_c38d5 25 = .ok (.invokestatic 304, 3) := dk_184 (by decide +kernel)
theorem dJ7_copyOf_c38d5_28 : decode cJ7_copyOf_c38d5 28 = .ok (.invokestatic 150, 3) := dk_184 (by decide +kernel)
theorem dJ7_copyOf_c38d5_31 : decode cJ7_copyOf_c38d5 31 = .ok (.aload_n 2, 1) := dk_44 (by decide +kernel)
theorem dJ7_copyOf_c38d5_32 : decode cJ7_copyOf_c38d5 32 = .ok (.areturn, 1) := dk_176 (by decide +kernel)
def wsMJ7_copyOf_c38d5 : List Cond := .code yJ7_copyOf_c38d5 cJ7_copyOf_c38d5 3 (some (.array .long)) :: ([.arrayClass .long, .methodLink RJ7 304 Lib.Math.min.name, .static Lib.Math.min.name, .initialized "java/lang/Math", .code Lib.Math.min.name Lib.Math.min.code 2 (some .int), .methodLink RJ7 150 arraycopyName, .native arraycopyName, .static arraycopyName, .initialized "java/lang/System"])
theorem gdwsMJ7_copyOf_c38d5 : wsMJ7_copyOf_c38d5.all goodWord = true := gdC rfl (by decide +kernel : ([.arrayClass .long, .methodLink RJ7 304 Lib.Math.min.name, .static Lib.Math.min.name, .initialized "java/lang/Math", .code Lib.Math.min.name Lib.Math.min.code 2 (some .int), .methodLink RJ7 150 arraycopyName, .native arraycopyName, .static arraycopyName, .initialized "java/lang/System"] : List Cond).all goodWord = true)
set_option maxHeartbeats 4000000 in
set_option maxRecDepth 100000 in
/-- Arrays.copyOf of longs -/
theorem m_J7_copyOf_c38d5 (l : Launch) (dC : Nat → ClassId) (dI : Nat → Nat → Nat) (hZ : Nat → Nat) (aZ : Nat → Nat) (kZ : Nat → ClassId) (nZ : Nat) (gZ : Nat → Int64) (p1 : Int32) (nn : Nat) (b_nZ : 0 ≤ nZ ∧ nZ ≤ 1000000) (hp1 : p1.toInt = ((nn : Nat) : Int)) (hne : nZ < nn) (hle : nn ≤ 1000000) (sz : Nat) : Met l yJ7_copyOf_c38d5 wsMJ7_copyOf_c38d5 ({ frames := 1, cells := 1, slots := nn, locals := 18 }) (va_Pc [.ref (aZ 0), .int p1] (fun U => U.heap.size = sz ∧ va_P (dC, dI) vwCl (WZ hZ aZ kZ nZ gZ) U.heap ∧ va_K (dC, dI) vwCl (tZ kZ) U ∧ va_D (fun _ => True) (WZ hZ aZ kZ nZ gZ))) (va_Qr (fun (u : Nat → Int64) => True) (fun u ra t => va_P (dC, dI) vwCl ((WZ hZ aZ kZ nZ gZ) ++ [(ra, .inl (kZ 0, nn, .inr (.inl u)))]) t.heap ∧ va_D (va_A (WZ hZ aZ kZ nZ gZ) sz) ((WZ hZ aZ kZ nZ gZ) ++ [(ra, .inl (kZ 0, nn, .inr (.inl u)))])) (va_A (WZ hZ aZ kZ nZ gZ) sz)) 1 nn (va_A (WZ hZ aZ kZ nZ gZ) sz) := by
  refine Met.ofW (cc := cJ7_copyOf_c38d5) (maxL := 3) (ret := (some (.array .long))) (by decide) rfl ?_
  intro p e s m args below meth c s₁ B hml hv
  obtain ⟨rfl, hsz, hP, hK, hD0⟩ := hv
  have hx := B.exec
  have hb := B.bytes
  have hr := B.returns
  have hts := atoms_spec (ws := wsMJ7_copyOf_c38d5) B.pre
  have hown : s.vm.findClass RJ7 = some m.cls := findClass_of_methodNamed B.named
  have hlocks := B.notSynchronized
  subst hsz
  have hD := hD0.self (sz := s.heap.size)
  generalize hAe : va_A (WZ hZ aZ kZ nZ gZ) s.heap.size = A at hD ⊢
  have hA : ∀ q : Nat, s.heap.size ≤ q → A q := fun q h => by rw [← hAe]; exact Or.inr h
  have hS : va_S A s.heap s.heap [] := va_S.rf
  have hl := lv_entry ([.ref (aZ 0), .int p1]) (n := 3) (Nat.le_of_ble_eq_true rfl)
  rw [lg_entry_eq]
  generalize (lg_sl ([.ref (aZ 0), .int p1]) ++ List.replicate (3 - (lg_sl ([.ref (aZ 0), .int p1])).length) Slot.unset).toArray = ls at hl ⊢
  have hl : lv_has ls 3 [(0, .ref (aZ 0)), (1, .int p1)] := hl
  refine lv_iload_n hx hb dJ7_copyOf_c38d5_0 rfl (lv_at hl 1 rfl) ?_
  refine lv_aload_n hx hb dJ7_copyOf_c38d5_1 rfl (lv_at hl 0 rfl) ?_
  refine va_alen hx hb hK hP 0 0 rfl rfl (v := (iI ((nZ : Nat) : Int))) (iI_nat _) dJ7_copyOf_c38d5_2 ?_
  refine lv_icmp_ne (tgt := 14) hx hb dJ7_copyOf_c38d5_3 (by decide) (fun c_3 => ?_) (fun c9 => False.elim (by have t9 : p1.toInt = ((nZ : Nat) : Int) := toI_nne c9 rfl (iI_t (by omega) (by omega)); omega))
  first | (have t_3 : p1.toInt ≠ ((nZ : Nat) : Int) := toI_ne c_3 rfl (iI_t (by omega) (by omega))) | skip
  refine lv_iload_n hx hb dJ7_copyOf_c38d5_14 rfl (lv_at hl 1 rfl) ?_
  have hnn : ((nn : Nat) : Int) = p1.toInt := by omega
  refine va_newa (atype := .long) (ty := .long) (N' := nn) (a0 := (nn, .inr (.inl (fun _ => 0)))) hx hb (hts (.arrayClass .long) (by decide +kernel)) rfl hK hP hD hS hA (fun _ => rfl) (nn_i rfl (by omega)) (clampN rfl hnn) (by show nn * 8 ≤ 536870912; omega) (by first | decide +kernel | (dsimp only [headSpec] <;> omega)) (by first | decide +kernel | (dsimp only [headSpec] <;> omega)) dJ7_copyOf_c38d5_15 (fun qn1 cA H hKn hP hD hS => ?_)
  obtain rfl : cA = kZ 0 := hKn.cls (i := 0) (j := 1) rfl rfl (by simp)
  clear hKn
  have hP : va_P (dC, dI) vwCl ((WZ hZ aZ kZ nZ gZ) ++ [(qn1, .inl (kZ 0, nn, .inr (.inl (fun _ => 0))))]) H := hP
  have hD := fz_sd hP (hD) rfl
  refine lv_astore_n hx hb dJ7_copyOf_c38d5_17 rfl hl (by decide) rfl (fun ls (hl : lv_has ls _ ([(2, .ref qn1), (0, .ref (aZ 0)), (1, .int p1)])) => ?_)
  refine lv_aload_n hx hb dJ7_copyOf_c38d5_18 rfl (lv_at hl 1 rfl) ?_
  refine lv_iconst (v := 0) hx hb dJ7_copyOf_c38d5_19 (by decide) ?_
  refine lv_aload_n hx hb dJ7_copyOf_c38d5_20 rfl (lv_at hl 0 rfl) ?_
  refine lv_iconst (v := 0) hx hb dJ7_copyOf_c38d5_21 (by decide) ?_
  refine lv_aload_n hx hb dJ7_copyOf_c38d5_22 rfl (lv_at hl 1 rfl) ?_
  refine va_alen hx hb hK hP 0 0 rfl rfl (v := (iI ((nZ : Nat) : Int))) (iI_nat _) dJ7_copyOf_c38d5_23 ?_
  refine lv_iload_n hx hb dJ7_copyOf_c38d5_24 rfl (lv_at hl 2 rfl) ?_
  refine va_mmin hx hb (by rw [hml]; exact hl.1.symm) hown (hts (.methodLink RJ7 304 Lib.Math.min.name) (by decide +kernel)) (hts (.static Lib.Math.min.name) (by decide +kernel)) (hts (.initialized "java/lang/Math") (by decide +kernel)) (hts (.code Lib.Math.min.name Lib.Math.min.code 2 (some .int)) (by decide +kernel)) (by first | decide +kernel | (dsimp only [headSpec] <;> omega)) (Nat.le_of_ble_eq_true rfl) (by first | decide +kernel | (dsimp only [headSpec] <;> omega)) (by first | decide +kernel | (dsimp only [headSpec] <;> omega)) dJ7_copyOf_c38d5_25 ?_
  refine lv_topi (fun v2 hv2 => ?_)
  first | (have b_v2 : (v2.toInt ≤ ((nZ : Nat) : Int) ∧ v2.toInt ≤ p1.toInt) ∧ (v2.toInt = ((nZ : Nat) : Int) ∨ v2.toInt = p1.toInt) := by rw [hv2]; exact min_t (iI_t (by omega) (by omega)) rfl) | skip
  clear hv2
  refine va_copyl hx hb (by rw [hml]; exact hl.1.symm) hown (hts (.methodLink RJ7 150 arraycopyName) (by decide +kernel)) (hts (.native arraycopyName) (by decide +kernel)) (hts (.static arraycopyName) (by decide +kernel)) (hts (.initialized "java/lang/System") (by decide +kernel)) hK hP hD hS 0 1 0 0 rfl rfl rfl rfl rfl (by decide) (by decide) (nn_i rfl (by omega)) (cp_fit (by decide : (0 : Int32).toInt = 0) rfl (by omega) (by omega) (by omega)) (cp_fit (by decide : (0 : Int32).toInt = 0) rfl (by omega) (by omega) (by omega)) (fun i9 h9 => rfl) (by dsimp only [headSpec]; omega) (by dsimp only [headSpec]; decide) dJ7_copyOf_c38d5_28 (fun H locs hP hD hS => ?_)
  obtain ⟨u3, hu3⟩ : ∃ f9, f9 = va_cpy gZ (fun _ => 0) (0 : Int32).toNatClampNeg (0 : Int32).toNatClampNeg (v2).toNatClampNeg := ⟨_, rfl⟩
  have hP : va_P (dC, dI) vwCl ((WZ hZ aZ kZ nZ gZ) ++ [(qn1, .inl (kZ 0, nn, .inr (.inl u3)))]) H := by rw [hu3]; exact hP
  have hD : va_D A ((WZ hZ aZ kZ nZ gZ) ++ [(qn1, .inl (kZ 0, nn, .inr (.inl u3)))]) := by rw [hu3]; exact hD
  clear hu3
  refine lv_aload_n hx hb dJ7_copyOf_c38d5_31 rfl (lv_at hl 0 rfl) ?_
  refine W.widen (k := 1) (n := nn) (by omega) (by omega) ?_
  exact W.aret hx hb hr (Or.inr ⟨_, rfl⟩) (Or.inr ⟨_, rfl⟩) (fun t9_ ht hW => ⟨⟨u3, _, rfl, trivial, by rw [ht]; exact hP, hD⟩, hS.F ht⟩) hS.2.2 dJ7_copyOf_c38d5_32
end
section
theorem dX9_append_0 : decode cX9_append 0 = .ok (.aload_n 0, 1) := dk_42 (by decide +kernel)
theorem dX9_append_1 : decode cX9_append 1 = .ok (.getfield 19, 3) := dk_180 (by decide +kernel)
theorem dX9_append_4 : decode cX9_append 4 = .ok (.sipush 4000, 3) := dk_17 (by decide +kernel)
theorem dX9_append_7 : decode cX9_append 7 = .ok (.if_icmp .lt 4, 3) := dk_161 (by decide +kernel)
theorem dX9_append_11 : decode cX9_append 11 = .ok (.aload_n 0, 1) := dk_42 (by decide +kernel)
theorem dX9_append_12 : decode cX9_append 12 = .ok (.getfield 19, 3) := dk_180 (by decide +kernel)
theorem dX9_append_15 : decode cX9_append 15 = .ok (.aload_n 0, 1) := dk_42 (by decide +kernel)
theorem dX9_append_16 : decode cX9_append 16 = .ok (.getfield 9, 3) := dk_180 (by decide +kernel)
theorem dX9_append_19 : decode cX9_append 19 = .ok (.arraylength, 1) := dk_190 (by decide +kernel)
theorem dX9_append_20 : decode cX9_append 20 = .ok (.if_icmp .lt 21, 3) := dk_161 (by decide +kernel)
theorem dX9_append_23 : decode cX9_append 23 = .ok (.aload_n 0, 1) := dk_42 (by decide +kernel)
theorem dX9_append_24 : decode cX9_append 24 = .ok (.aload_n 0, 1) := dk_42 (by decide +kernel)
theorem dX9_append_25 : decode cX9_append 25 = .ok (.getfield 9, 3) := dk_180 (by decide +kernel)
theorem dX9_append_28 : decode cX9_append 28 = .ok (.aload_n 0, 1) := dk_42 (by decide +kernel)
theorem dX9_append_29 : decode cX9_append 29 = .ok (.getfield 9, 3) := dk_180 (by decide +kernel)
theorem dX9_append_32 : decode cX9_append 32 = .ok (.arraylength, 1) := dk_190 (by decide +kernel)
theorem dX9_append_33 : decode cX9_append 33 = .ok (.iconst 2, 1) := dk_5 (by decide +kernel)
theorem dX9_append_34 : decode cX9_append 34 = .ok (.imul, 1) := dk_104 (by decide +kernel)
theorem dX9_append_35 : decode cX9_append 35 = .ok (.invokestatic 22, 3) := dk_184 (by decide +kernel)
theorem dX9_append_38 : decode cX9_append 38 = .ok (.putfield 9, 3) := dk_181 (by decide +kernel)
theorem dX9_append_41 : decode cX9_append 41 = .ok (.aload_n 0, 1) := dk_42 (by decide +kernel)
theorem dX9_append_42 : decode cX9_append 42 = .ok (.getfield 9, 3) := dk_180 (by decide +kernel)
theorem dX9_append_45 : decode cX9_append 45 = .ok (.aload_n 0, 1) := dk_42 (by decide +kernel)
theorem dX9_append_46 : decode cX9_append 46 = .ok (.getfield 19, 3) := dk_180 (by decide +kernel)
theorem dX9_append_49 : decode cX9_append 49 = .ok (.iload_n 1, 1) := dk_27 (by decide +kernel)
theorem dX9_append_50 : decode cX9_append 50 = .ok (.i2b, 1) := dk_145 (by decide +kernel)
theorem dX9_append_51 : decode cX9_append 51 = .ok (.bastore, 1) := dk_84 (by decide +kernel)
theorem dX9_append_52 : decode cX9_append 52 = .ok (.aload_n 0, 1) := dk_42 (by decide +kernel)
theorem dX9_append_53 : decode cX9_append 53 = .ok (.dup, 1) := dk_89 (by decide +kernel)
theorem dX9_append_54 : decode cX9_append 54 = .ok (.getfield 19, 3) := dk_180 (by decide +kernel)
theorem dX9_append_57 : decode cX9_append 57 = .ok (.iconst 1, 1) := dk_4 (by decide +kernel)
theorem dX9_append_58 : decode cX9_append 58 = .ok (.iadd, 1) := dk_96 (by decide +kernel)
theorem dX9_append_59 : decode cX9_append 59 = .ok (.putfield 19, 3) := dk_181 (by decide +kernel)
theorem dX9_append_62 : decode cX9_append 62 = .ok (.return_, 1) := dk_177 (by decide +kernel)
def wsMX9_append : List Cond := .code yX9_append cX9_append 2 none :: ([.fieldLink RX9 19 "OptimaWorks$Words" "length" "I", .fieldLink RX9 9 "OptimaWorks$Words" "tape" "[B"] ++ wsX90 ++ (va_wsS RX9 22 yJ7_copyOf_9075b wsMJ7_copyOf_9075b))
theorem iwsMX9_append_in9 : ∀ w ∈ wsX90, w ∈ wsMX9_append := fun _ h => List.mem_cons_of_mem _ (List.mem_append_left _ (List.mem_append_right _ h))
theorem gwsMX9_append_0 : GoodIn wsMX9_append (va_wsS RX9 22 yJ7_copyOf_9075b wsMJ7_copyOf_9075b) := goodIn_sub (fun _ h => List.mem_cons_of_mem _ (List.mem_append_right _ h)) (gdS (by decide +kernel) gdwsMJ7_copyOf_9075b)
theorem gdwsMX9_append : wsMX9_append.all goodWord = true := gdC rfl (gdA (gdA (by decide +kernel : ([.fieldLink RX9 19 "OptimaWorks$Words" "length" "I", .fieldLink RX9 9 "OptimaWorks$Words" "tape" "[B"] : List Cond).all goodWord = true) gdwsX90) (gdS (by decide +kernel) gdwsMJ7_copyOf_9075b))
theorem hm_m_X9_append_0 : (.fieldLink RX9 19 "OptimaWorks$Words" "length" "I" : Cond) ∈ wsMX9_append := by decide +kernel
theorem hm_m_X9_append_1 : (.fieldLink RX9 9 "OptimaWorks$Words" "tape" "[B" : Cond) ∈ wsMX9_append := by decide +kernel
set_option maxHeartbeats 4000000 in
set_option maxRecDepth 100000 in
/-- a byte more on the tape -/
theorem m_X9_append (l : Launch) (dC : Nat → ClassId) (dI : Nat → Nat → Nat) (hT : Nat → Nat) (aT : Nat → Nat) (kT : Nat → ClassId) (fT_tape : Nat → Int32) (dT_tape : Nat) (nT_tape : Nat) (iT_length : Int32) (iT_fault : Int32) (iT_place : Int32) (iT_kind : Int32) (iT_at : Int32) (iT_number : Int32) (jT_name : Int64) (iT_next : Int32) (p1 : Int32) (b_fT_tape : ∀ q : Nat, (-128) ≤ (fT_tape q).toInt ∧ (fT_tape q).toInt ≤ 127) (b_nT_tape : 64 ≤ nT_tape ∧ nT_tape ≤ 2560) (b_iT_length : 0 ≤ iT_length.toInt ∧ iT_length.toInt ≤ 1280) (b_iT_at : 0 ≤ iT_at.toInt ∧ iT_at.toInt ≤ 1282) (b_iT_number : 0 ≤ iT_number.toInt ∧ iT_number.toInt ≤ 999999) (b_iT_next : 0 ≤ iT_next.toInt ∧ iT_next.toInt ≤ 1282) (b_len : iT_length.toInt ≤ ((nT_tape : Nat) : Int)) (hl79 : iT_length.toInt < 1280) (sz : Nat) : Met l yX9_append wsMX9_append ({ frames := 2, cells := 81, slots := 7680, locals := 40 }) (va_Pc [.ref (hT 0), .int p1] (fun U => U.heap.size = sz ∧ va_P (dC, dI) vwCl (WT hT aT kT fT_tape dT_tape nT_tape iT_length iT_fault iT_place iT_kind iT_at iT_number jT_name iT_next) U.heap ∧ va_K (dC, dI) vwCl (tT kT) U ∧ va_D (fun _ => True) (WT hT aT kT fT_tape dT_tape nT_tape iT_length iT_fault iT_place iT_kind iT_at iT_number jT_name iT_next))) (va_Qv (fun (u : (Nat → Int32) × (Nat) × (Nat) × (Int32)) => (∀ q : Nat, (-128) ≤ ((u.1) q).toInt ∧ ((u.1) q).toInt ≤ 127) ∧ (64 ≤ (u.2.2.1) ∧ (u.2.2.1) ≤ 2560) ∧ (0 ≤ (u.2.2.2).toInt ∧ (u.2.2.2).toInt ≤ 1280) ∧ ((u.2.2.2).toInt ≤ (((u.2.2.1) : Nat) : Int)) ∧ ((u.2.2.2).toInt = iT_length.toInt + 1) ∧ (nT_tape ≤ (u.2.2.1))) (fun (u : (Nat → Int32) × (Nat) × (Nat) × (Int32)) t => va_P (dC, dI) vwCl (WT hT aT kT (u.1) (u.2.1) (u.2.2.1) (u.2.2.2) iT_fault iT_place iT_kind iT_at iT_number jT_name iT_next) t.heap ∧ va_D (va_A (WT hT aT kT fT_tape dT_tape nT_tape iT_length iT_fault iT_place iT_kind iT_at iT_number jT_name iT_next) sz) (WT hT aT kT (u.1) (u.2.1) (u.2.2.1) (u.2.2.2) iT_fault iT_place iT_kind iT_at iT_number jT_name iT_next) ∧ t.heap.size + (nT_tape / 32) ≤ sz + ((u.2.2.1) / 32) ∧ nS sz t.heap + (2 * nT_tape) ≤ (2 * (u.2.2.1))) (va_A (WT hT aT kT fT_tape dT_tape nT_tape iT_length iT_fault iT_place iT_kind iT_at iT_number jT_name iT_next) sz)) 81 7680 (va_A (WT hT aT kT fT_tape dT_tape nT_tape iT_length iT_fault iT_place iT_kind iT_at iT_number jT_name iT_next) sz) := by
  refine Met.ofW (cc := cX9_append) (maxL := 2) (ret := none) (by decide) rfl ?_
  intro p e s m args below meth c s₁ B hml hv
  obtain ⟨rfl, hsz, hP, hK, hD0⟩ := hv
  have hx := B.exec
  have hb := B.bytes
  have hr := B.returns
  have hts := atoms_spec (ws := wsMX9_append) B.pre
  have hown : s.vm.findClass RX9 = some m.cls := findClass_of_methodNamed B.named
  have hlocks := B.notSynchronized
  subst hsz
  have hD := hD0.self (sz := s.heap.size)
  generalize hAe : va_A (WT hT aT kT fT_tape dT_tape nT_tape iT_length iT_fault iT_place iT_kind iT_at iT_number jT_name iT_next) s.heap.size = A at hD ⊢
  have hA : ∀ q : Nat, s.heap.size ≤ q → A q := fun q h => by rw [← hAe]; exact Or.inr h
  have hS : va_S A s.heap s.heap [] := va_S.rf
  have hl := lv_entry ([.ref (hT 0), .int p1]) (n := 2) (Nat.le_of_ble_eq_true rfl)
  rw [lg_entry_eq]
  generalize (lg_sl ([.ref (hT 0), .int p1]) ++ List.replicate (2 - (lg_sl ([.ref (hT 0), .int p1])).length) Slot.unset).toArray = ls at hl ⊢
  have hl : lv_has ls 2 [(0, .ref (hT 0)), (1, .int p1)] := hl
  refine W.widen (k := (nT_tape / 32 - (nT_tape / 32))) (n := (2 * nT_tape - (2 * nT_tape))) (Nat.zero_le _) (Nat.zero_le _) ?_
  refine lv_aload_n hx hb dX9_append_0 rfl (lv_at hl 0 rfl) ?_
  refine va_get (D := (dC, dI)) (ci := 9) (v := .int iT_length) (C := RX9) (T := TX9) (N := 9) hx hb hts iwsMX9_append_in9 hown hK hP 0 rfl rfl 1 (by decide) (hts _ hm_m_X9_append_0) (fun _ h9 => h9) rfl dX9_append_1 ?_
  refine lv_sipush (v := 4000) hx hb dX9_append_4 (by decide) ?_
  refine lv_icmp_lt (tgt := 11) hx hb dX9_append_7 (by decide) (fun c_7 => ?_) (fun c9 => False.elim (by have t9 : ¬ iT_length.toInt < 4000 := toI_nlt c9 rfl (by decide : (4000 : Int32).toInt = 4000); omega))
  have t_7 : iT_length.toInt < 4000 := toI_lt c_7 rfl (by decide : (4000 : Int32).toInt = 4000)
  refine lv_aload_n hx hb dX9_append_11 rfl (lv_at hl 0 rfl) ?_
  refine va_get (D := (dC, dI)) (ci := 9) (v := .int iT_length) (C := RX9) (T := TX9) (N := 9) hx hb hts iwsMX9_append_in9 hown hK hP 0 rfl rfl 1 (by decide) (hts _ hm_m_X9_append_0) (fun _ h9 => h9) rfl dX9_append_12 ?_
  refine lv_aload_n hx hb dX9_append_15 rfl (lv_at hl 0 rfl) ?_
  refine va_get (D := (dC, dI)) (ci := 9) (v := .ref dT_tape) (C := RX9) (T := TX9) (N := 9) hx hb hts iwsMX9_append_in9 hown hK hP 0 rfl rfl 0 (by decide) (hts _ hm_m_X9_append_1) (fun _ h9 => h9) rfl dX9_append_16 ?_
  refine va_alen hx hb hK hP 1 0 rfl rfl (v := (iI ((nT_tape : Nat) : Int))) (iI_nat _) dX9_append_19 ?_
  refine W.known (fun hzk hnk => ?_)
  refine W.widen (k := 80) (n := 5120) (by omega) (by omega) ?_
  refine W.cut (pc := 41) (fun H locs ls stk => ∃ (fT_tape_j2 : Nat → Int32) (dT_tape_j2 : Nat) (nT_tape_j2 : Nat), (∀ q : Nat, (-128) ≤ (fT_tape_j2 q).toInt ∧ (fT_tape_j2 q).toInt ≤ 127) ∧ (64 ≤ nT_tape_j2 ∧ nT_tape_j2 ≤ 2560) ∧ (iT_length.toInt ≤ ((nT_tape_j2 : Nat) : Int)) ∧ (iT_length.toInt < ((nT_tape_j2 : Nat) : Int)) ∧ (nT_tape ≤ nT_tape_j2) ∧ (H.size + (nT_tape / 32) ≤ s.heap.size + (nT_tape_j2 / 32) ∧ nS s.heap.size H + (2 * nT_tape) ≤ (2 * nT_tape_j2)) ∧  stk = [] ∧ va_P (dC, dI) vwCl (WT hT aT kT fT_tape_j2 dT_tape_j2 nT_tape_j2 iT_length iT_fault iT_place iT_kind iT_at iT_number jT_name iT_next) H ∧ va_D A (WT hT aT kT fT_tape_j2 dT_tape_j2 nT_tape_j2 iT_length iT_fault iT_place iT_kind iT_at iT_number jT_name iT_next) ∧ va_S A s.heap H locs ∧ lv_has ls 2 [(0, .ref (hT 0)), (1, .int p1)]) (fun join2 => ?_) ?_
  · refine W.tight (cells2 := (nT_tape / 32 - (nT_tape / 32))) (slots2 := (2 * nT_tape - (2 * nT_tape))) hzk hnk ?_
    refine lv_icmp_lt (tgt := 41) hx hb dX9_append_20 (by decide) (fun c_20 => ?_) (fun c_20 => ?_)
    · first | (have t_20 : iT_length.toInt < ((nT_tape : Nat) : Int) := toI_lt c_20 rfl (iI_t (by omega) (by omega))) | skip
      have hl : lv_has _ _ ([(0, .ref (hT 0)), (1, .int p1)]) := lv_sub hl [0, 1] rfl
      refine W.known (fun hza hna => ?_)
      refine W.widen (k := 80) (n := 5120) (by omega) (by omega) ?_
      exact join2 _ _ _ _ ⟨fT_tape, dT_tape, nT_tape, b_fT_tape, (by first | exact b_nT_tape | with_reducible assumption | exact ⟨by omega, by omega⟩ | assumption), (by first | with_reducible assumption | omega | (rw [iI_t (by omega) (by omega)]; omega) | assumption), (show iT_length.toInt < ((nT_tape : Nat) : Int) from by omega), (show nT_tape ≤ nT_tape from by omega), ⟨by omega, by omega⟩, rfl, hP, hD, hS, hl⟩
    · first | (have t_20 : ¬ iT_length.toInt < ((nT_tape : Nat) : Int) := toI_nlt c_20 rfl (iI_t (by omega) (by omega))) | skip
      refine lv_aload_n hx hb dX9_append_23 rfl (lv_at hl 0 rfl) ?_
      refine lv_aload_n hx hb dX9_append_24 rfl (lv_at hl 0 rfl) ?_
      refine va_get (D := (dC, dI)) (ci := 9) (v := .ref dT_tape) (C := RX9) (T := TX9) (N := 9) hx hb hts iwsMX9_append_in9 hown hK hP 0 rfl rfl 0 (by decide) (hts _ hm_m_X9_append_1) (fun _ h9 => h9) rfl dX9_append_25 ?_
      refine lv_aload_n hx hb dX9_append_28 rfl (lv_at hl 0 rfl) ?_
      refine va_get (D := (dC, dI)) (ci := 9) (v := .ref dT_tape) (C := RX9) (T := TX9) (N := 9) hx hb hts iwsMX9_append_in9 hown hK hP 0 rfl rfl 0 (by decide) (hts _ hm_m_X9_append_1) (fun _ h9 => h9) rfl dX9_append_29 ?_
      refine va_alen hx hb hK hP 1 0 rfl rfl (v := (iI ((nT_tape : Nat) : Int))) (iI_nat _) dX9_append_32 ?_
      refine lv_iconst (v := 2) hx hb dX9_append_33 (by decide) ?_
      refine lv_imul hx hb dX9_append_34 ?_
      refine lv_topi (fun y3 hy3 => ?_)
      obtain rfl : (iI (((nT_tape : Nat) : Int) * 2)) = y3 := (hy3.trans (iI_mul2 rfl (by decide : (2 : Int32) = iI 2))).symm
      obtain ⟨nn4, hnn4⟩ : ∃ k9 : Nat, (k9 : Int) = (((nT_tape : Nat) : Int) * 2) := ⟨((((nT_tape : Nat) : Int) * 2)).toNat, by omega⟩
      have hPc : va_P (dC, dI) vwCl (WH (fun _ => 0) (fun _ => dT_tape) (fun _ => kT 0) nT_tape fT_tape) _ := hP.sub [1] rfl
      have hDc : va_D _ (WH (fun _ => 0) (fun _ => dT_tape) (fun _ => kT 0) nT_tape fT_tape) := hD.sub [1] (by decide) rfl
      have hKc : va_K (dC, dI) vwCl (tH (fun _ => kT 0)) _ := hK.sub [0] rfl
      have hFc := va_free (wc := WH (fun _ => 0) (fun _ => dT_tape) (fun _ => kT 0) nT_tape fT_tape) hD hS hA [1] rfl
      refine va_callr (va_runS (As := [.ref dT_tape, .int (iI (((nT_tape : Nat) : Int) * 2))]) (rest := [.ref (hT 0)]) ⟨hx, hb, hml, hown, hts⟩ (m_J7_copyOf_9075b l dC dI (fun _ => 0) (fun _ => dT_tape) (fun _ => kT 0) nT_tape fT_tape (iI (((nT_tape : Nat) : Int) * 2)) nn4 ⟨by omega, by omega⟩ b_fT_tape ((iI_t (by omega) (by omega)).trans hnn4.symm) (by omega) (by omega) s.heap.size) (va_cwS 2 hts gwsMX9_append_0 rfl rfl rfl (by decide +kernel) ⟨(by first | decide +kernel | (dsimp only [headSpec] <;> omega)), (by first | decide +kernel | (dsimp only [headSpec] <;> omega))⟩) ⟨fun a U g mk q => by obtain ⟨q0, q1, qP, qK, qD⟩ := q; exact ⟨q0, q1, qP, va_K.moved (u := U) (U := U.calling g mk a) (Vm.Alike.refl U.vm) qK, qD⟩, fun U hU9 hW => ⟨rfl, by rw [hU9], by rw [hU9]; exact hPc, va_K.moved hW.alike hKc, hDc.weaken (fun _ _ _ _ => trivial)⟩⟩ rfl rfl hl.1 rfl (lv_room (Nat.le_of_ble_eq_true rfl)) dX9_append_35 ⟨(by first | decide +kernel | (dsimp only [headSpec] <;> omega)), (by first | decide +kernel | (dsimp only [headSpec] <;> omega))⟩) hS (fun q _ h => hFc q h) hFc (fun uC4 ra4 t9_ H locs ht hvm hw9 hB9 hz1 hk1 hS => ?_)
      obtain ⟨hP, hD⟩ := va_join (wr := [(hT 0, .inr (9, [.ref dT_tape, .int iT_length, .int iT_fault, .int iT_place, .int iT_kind, .int iT_at, .int iT_number, .long jT_name, .int iT_next]))]) (w1 := [(dT_tape, .inl (kT 0, nT_tape, .inl fT_tape)), (ra4, .inl (kT 0, nn4, .inl uC4))]) hP hD [1] [0] rfl rfl (by decide) (by decide) hk1 hFc (fz_P ht hB9.1) hB9.2
      have hP : va_P (dC, dI) vwCl ((WT hT aT kT fT_tape dT_tape nT_tape iT_length iT_fault iT_place iT_kind iT_at iT_number jT_name iT_next) ++ [(ra4, .inl (kT 0, nn4, .inl uC4))]) H := hP.sub [0, 1, 2] rfl
      have hD : va_D A ((WT hT aT kT fT_tape dT_tape nT_tape iT_length iT_fault iT_place iT_kind iT_at iT_number jT_name iT_next) ++ [(ra4, .inl (kT 0, nn4, .inl uC4))]) := hD.sub [0, 1, 2] (by decide) rfl
      have b_uC4 := hw9
      refine va_put (D := (dC, dI)) (ci := 9) (v := .ref ra4) (ty := .array .byte) (C := RX9) (T := TX9) (N := 9) hx hb hts iwsMX9_append_in9 tyX9 tyX9_ok nmX9 hown hK hP hD hS 0 rfl rfl 0 (by decide) (hts _ hm_m_X9_append_1) (fun _ h9 => h9) rfl (by decide +kernel) rfl rfl (Nat.le_of_ble_eq_true rfl) dX9_append_38 (fun H locs hP hD hS => ?_)
      have hP : va_P (dC, dI) vwCl (WT hT aT kT uC4 ra4 nn4 iT_length iT_fault iT_place iT_kind iT_at iT_number jT_name iT_next) _ := hP.sub [0, 2] rfl
      have hD : va_D _ (WT hT aT kT uC4 ra4 nn4 iT_length iT_fault iT_place iT_kind iT_at iT_number jT_name iT_next) := hD.sub [0, 2] (by decide) rfl
      have hP : va_P (dC, dI) vwCl (WT hT aT kT uC4 ra4 nn4 iT_length iT_fault iT_place iT_kind iT_at iT_number jT_name iT_next) H := hP
      have hD := fz_sd hP (hD) rfl
      refine W.widen (k := (nn4 / 32 - (nT_tape / 32))) (n := (2 * nn4 - (2 * nT_tape))) (by omega) (by omega) ?_
      have hl : lv_has _ _ ([(0, .ref (hT 0)), (1, .int p1)]) := lv_sub hl [0, 1] rfl
      refine W.known (fun hza hna => ?_)
      refine W.widen (k := 80) (n := 5120) (by omega) (by omega) ?_
      exact join2 _ _ _ _ ⟨uC4, ra4, nn4, b_uC4, (by first | exact b_nn4 | with_reducible assumption | exact ⟨by omega, by omega⟩ | assumption), (by first | with_reducible assumption | omega | (rw [iI_t (by omega) (by omega)]; omega) | assumption), (show iT_length.toInt < ((nn4 : Nat) : Int) from by omega), (show nT_tape ≤ nn4 from by omega), ⟨by omega, by omega⟩, rfl, hP, hD, hS, hl⟩
  · intro H locs ls stk
    refine fz_e3 ?_
    intro fT_tape_j2 dT_tape_j2 nT_tape_j2
    refine fz_a11 ?_
    intro b_fT_tape_j2 b_nT_tape_j2 b_len_j2 hjn hgm0_j2 hzn9_5 hst9_6 hP hD hS hl
    have hzj := hzn9_5.1
    have hnj := hzn9_5.2
    clear hzn9_5
    subst hst9_6
    refine W.tight (cells2 := (nT_tape_j2 / 32 - (nT_tape / 32))) (slots2 := (2 * nT_tape_j2 - (2 * nT_tape))) (tg1 hzj hS.1) (tg2 hnj) ?_
    refine lv_aload_n hx hb dX9_append_41 rfl (lv_at hl 0 rfl) ?_
    refine va_get (D := (dC, dI)) (ci := 9) (v := .ref dT_tape_j2) (C := RX9) (T := TX9) (N := 9) hx hb hts iwsMX9_append_in9 hown hK hP 0 rfl rfl 0 (by decide) (hts _ hm_m_X9_append_1) (fun _ h9 => h9) rfl dX9_append_42 ?_
    refine lv_aload_n hx hb dX9_append_45 rfl (lv_at hl 0 rfl) ?_
    refine va_get (D := (dC, dI)) (ci := 9) (v := .int iT_length) (C := RX9) (T := TX9) (N := 9) hx hb hts iwsMX9_append_in9 hown hK hP 0 rfl rfl 1 (by decide) (hts _ hm_m_X9_append_0) (fun _ h9 => h9) rfl dX9_append_46 ?_
    refine lv_iload_n hx hb dX9_append_49 rfl (lv_at hl 1 rfl) ?_
    refine lv_i2b hx hb dX9_append_50 rfl ?_
    refine lv_topi (fun v5 hv5 => ?_)
    clear hv5
    refine va_bast (cA := kT 0) (n := nT_tape_j2) (f := fT_tape_j2) hx hb hK hP hD hS 1 0 rfl rfl (vp_in_iff.mpr ⟨b_iT_length.1, (by omega)⟩) dX9_append_51 (fun H locs hP hD hS => ?_)
    obtain ⟨u6, hu6⟩ : ∃ f9, f9 = upd fT_tape_j2 (iT_length).toNatClampNeg (vp_nar FieldType.byte v5) := ⟨_, rfl⟩
    have hP : va_P (dC, dI) vwCl (WT hT aT kT u6 dT_tape_j2 nT_tape_j2 iT_length iT_fault iT_place iT_kind iT_at iT_number jT_name iT_next) H := by rw [hu6]; exact hP
    have hD : va_D A (WT hT aT kT u6 dT_tape_j2 nT_tape_j2 iT_length iT_fault iT_place iT_kind iT_at iT_number jT_name iT_next) := by rw [hu6]; exact hD
    have b_u6 : ∀ q : Nat, (-128) ≤ (u6 q).toInt ∧ (u6 q).toInt ≤ 127 := by rw [hu6]; exact updb_r b_fT_tape_j2
    clear hu6
    refine lv_aload_n hx hb dX9_append_52 rfl (lv_at hl 0 rfl) ?_
    refine lv_dup hx hb dX9_append_53 rfl ?_
    refine va_get (D := (dC, dI)) (ci := 9) (v := .int iT_length) (C := RX9) (T := TX9) (N := 9) hx hb hts iwsMX9_append_in9 hown hK hP 0 rfl rfl 1 (by decide) (hts _ hm_m_X9_append_0) (fun _ h9 => h9) rfl dX9_append_54 ?_
    refine lv_iconst (v := 1) hx hb dX9_append_57 (by decide) ?_
    refine lv_iadd hx hb dX9_append_58 ?_
    refine lv_topi (fun y7 hy7 => ?_)
    obtain rfl : (iI (iT_length.toInt + 1)) = y7 := (hy7.trans (iI_add2 (iI_of _) (by decide : (1 : Int32) = iI 1))).symm
    refine va_put (D := (dC, dI)) (ci := 9) (v := .int (iI (iT_length.toInt + 1))) (ty := .int) (C := RX9) (T := TX9) (N := 9) hx hb hts iwsMX9_append_in9 tyX9 tyX9_ok nmX9 hown hK hP hD hS 0 rfl rfl 1 (by decide) (hts _ hm_m_X9_append_0) (fun _ h9 => h9) rfl (by decide +kernel) rfl rfl (Nat.le_of_ble_eq_true rfl) dX9_append_59 (fun H locs hP hD hS => ?_)
    have hP : va_P (dC, dI) vwCl (WT hT aT kT u6 dT_tape_j2 nT_tape_j2 (iI (iT_length.toInt + 1)) iT_fault iT_place iT_kind iT_at iT_number jT_name iT_next) H := hP
    have hD := fz_sd hP (hD) rfl
    refine W.known (fun hz9 hn9 => ?_)
    refine W.widen (k := 81) (n := 7680) (by omega) (by omega) ?_
    exact W.vret hx hb hr (fun t9_ ht hW => ⟨⟨(u6, dT_tape_j2, nT_tape_j2, (iI (iT_length.toInt + 1))), rfl, ⟨b_u6, (by (try dsimp only); exact (by first | exact b_nT_tape_j2 | with_reducible assumption | exact ⟨by omega, by omega⟩ | assumption)), (by (try dsimp only); exact (iI_rng (Int.le_trans (by decide) (Int.add_le_add (b_iT_length.1) (Int.le_refl _))) (by omega) (by decide) (by decide))), (by (try dsimp only); exact (by first | with_reducible assumption | omega | (rw [iI_t (by omega) (by omega)]; omega) | assumption)), (by (try dsimp only); first | exact iI_t (by omega) (by omega) | omega), (by (try dsimp only); omega)⟩, by rw [ht]; exact hP, hD, by rw [ht]; (try dsimp only); omega, by rw [ht]; (try dsimp only); omega⟩, hS.F ht⟩) hS.2.2 dX9_append_62
end
section
theorem dX7_keepListed_0 : decode cX7_keepListed 0 = .ok (.aload_n 0, 1) := dk_42 (by decide +kernel)
theorem dX7_keepListed_1 : decode cX7_keepListed 1 = .ok (.getfield 166, 3) := dk_180 (by decide +kernel)
theorem dX7_keepListed_4 : decode cX7_keepListed 4 = .ok (.aload_n 0, 1) := dk_42 (by decide +kernel)
theorem dX7_keepListed_5 : decode cX7_keepListed 5 = .ok (.getfield 56, 3) := dk_180 (by decide +kernel)
theorem dX7_keepListed_8 : decode cX7_keepListed 8 = .ok (.arraylength, 1) := dk_190 (by decide +kernel)
theorem dX7_keepListed_9 : decode cX7_keepListed 9 = .ok (.if_icmp .lt 25, 3) := dk_161 (by decide +kernel)
theorem dX7_keepListed_12 : decode cX7_keepListed 12 = .ok (.aload_n 0, 1) := dk_42 (by decide +kernel)
theorem dX7_keepListed_13 : decode cX7_keepListed 13 = .ok (.aload_n 0, 1) := dk_42 (by decide +kernel)
theorem dX7_keepListed_14 : decode cX7_keepListed 14 = .ok (.getfield 56, 3) := dk_180 (by decide +kernel)
theorem dX7_keepListed_17 : decode cX7_keepListed 17 = .ok (.bipush 8, 2) := dk_16 (by decide +kernel)
theorem dX7_keepListed_19 : decode cX7_keepListed 19 = .ok (.iconst 2, 1) := dk_5 (by decide +kernel)
theorem dX7_keepListed_20 : decode cX7_keepListed 20 = .ok (.aload_n 0, 1) := dk_42 (by decide +kernel)
theorem dX7_keepListed_21 : decode cX7_keepListed 21 = .ok (.getfield 166, 3) := dk_180 (by decide +kernel)
theorem dX7_keepListed_24 : decode cX7_keepListed 24 = .ok (.imul, 1) := dk_104 (by decide +kernel)
theorem dX7_keepListed_25 : decode cX7_keepListed 25 = .ok (.invokestatic 89, 3) := dk_184 (by decide +kernel)
theorem dX7_keepListed_28 : decode cX7_keepListed 28 = .ok (.invokestatic 188, 3) := dk_184 (by decide +kernel)
theorem dX7_keepListed_31 : decode cX7_keepListed 31 = .ok (.putfield 56, 3) := dk_181 (by decide +kernel)
theorem dX7_keepListed_34 : decode cX7_keepListed 34 = .ok (.lconst 0, 1) := dk_9 (by decide +kernel)
theorem dX7_keepListed_35 : decode cX7_keepListed 35 = .ok (.lstore_n 1, 1) := dk_64 (by decide +kernel)
theorem dX7_keepListed_36 : decode cX7_keepListed 36 = .ok (.aload_n 0, 1) := dk_42 (by decide +kernel)
theorem dX7_keepListed_37 : decode cX7_keepListed 37 = .ok (.getfield 59, 3) := dk_180 (by decide +kernel)
theorem dX7_keepListed_40 : decode cX7_keepListed 40 = .ok (.iconst 1, 1) := dk_4 (by decide +kernel)
theorem dX7_keepListed_41 : decode cX7_keepListed 41 = .ok (.isub, 1) := dk_100 (by decide +kernel)
theorem dX7_keepListed_42 : decode cX7_keepListed 42 = .ok (.istore_n 3, 1) := dk_62 (by decide +kernel)
theorem dX7_keepListed_43 : decode cX7_keepListed 43 = .ok (.iload_n 3, 1) := dk_29 (by decide +kernel)
theorem dX7_keepListed_44 : decode cX7_keepListed 44 = .ok (.ifCond .lt 21, 3) := dk_155 (by decide +kernel)
theorem dX7_keepListed_47 : decode cX7_keepListed 47 = .ok (.lload_n 1, 1) := dk_31 (by decide +kernel)
theorem dX7_keepListed_48 : decode cX7_keepListed 48 = .ok (.iconst 4, 1) := dk_7 (by decide +kernel)
theorem dX7_keepListed_49 : decode cX7_keepListed 49 = .ok (.lshl, 1) := dk_121 (by decide +kernel)
theorem dX7_keepListed_50 : decode cX7_keepListed 50 = .ok (.aload_n 0, 1) := dk_42 (by decide +kernel)
theorem dX7_keepListed_51 : decode cX7_keepListed 51 = .ok (.getfield 53, 3) := dk_180 (by decide +kernel)
theorem dX7_keepListed_54 : decode cX7_keepListed 54 = .ok (.iload_n 3, 1) := dk_29 (by decide +kernel)
theorem dX7_keepListed_55 : decode cX7_keepListed 55 = .ok (.iaload, 1) := dk_46 (by decide +kernel)
theorem dX7_keepListed_56 : decode cX7_keepListed 56 = .ok (.i2l, 1) := dk_133 (by decide +kernel)
theorem dX7_keepListed_57 : decode cX7_keepListed 57 = .ok (.lor, 1) := dk_129 (by decide +kernel)
theorem dX7_keepListed_58 : decode cX7_keepListed 58 = .ok (.lstore_n 1, 1) := dk_64 (by decide +kernel)
theorem dX7_keepListed_59 : decode cX7_keepListed 59 = .ok (.iinc 3 (-1), 3) := dk_132 (by decide +kernel)
theorem dX7_keepListed_62 : decode cX7_keepListed 62 = .ok (.goto (-19), 3) := dk_167 (by decide +kernel)
theorem dX7_keepListed_65 : decode cX7_keepListed 65 = .ok (.aload_n 0, 1) := dk_42 (by decide +kernel)
theorem dX7_keepListed_66 : decode cX7_keepListed 66 = .ok (.getfield 56, 3) := dk_180 (by decide +kernel)
theorem dX7_keepListed_69 : decode cX7_keepListed 69 = .ok (.aload_n 0, 1) := dk_42 (by decide +kernel)
theorem dX7_keepListed_70 : decode cX7_keepListed 70 = .ok (.getfield 166, 3) := dk_180 (by decide +kernel)
theorem dX7_keepListed_73 : decode cX7_keepListed 73 = .ok (.lload_n 1, 1) := dk_31 (by decide +kernel)
theorem dX7_keepListed_74 : decode cX7_keepListed 74 = .ok (.lastore, 1) := dk_80 (by decide +kernel)
theorem dX7_keepListed_75 : decode cX7_keepListed 75 = .ok (.aload_n 0, 1) := dk_42 (by decide +kernel)
theorem dX7_keepListed_76 : decode cX7_keepListed 76 = .ok (.dup, 1) := dk_89 (by decide +kernel)
theorem dX7_keepListed_77 : decode cX7_keepListed 77 = .ok (.getfield 166, 3) := dk_180 (by decide +kernel)
theorem dX7_keepListed_80 : decode cX7_keepListed 80 = .ok (.iconst 1, 1) := dk_4 (by decide +kernel)
theorem dX7_keepListed_81 : decode cX7_keepListed 81 = .ok (.iadd, 1) := dk_96 (by decide +kernel)
theorem dX7_keepListed_82 : decode cX7_keepListed 82 = .ok (.putfield 166, 3) := dk_181 (by decide +kernel)
theorem dX7_keepListed_85 : decode cX7_keepListed 85 = .ok (.return_, 1) := dk_177 (by decide +kernel)
def wsMX7_keepListed : List Cond := .code yX7_keepListed cX7_keepListed 4 none :: ([.fieldLink RX7 166 "OptimaWorks$ValueDesk" "listed" "I", .fieldLink RX7 56 "OptimaWorks$ValueDesk" "list" "[J", .methodLink RX7 89 Lib.Math.max.name, .static Lib.Math.max.name, .initialized "java/lang/Math", .code Lib.Math.max.name Lib.Math.max.code 2 (some .int), .fieldLink RX7 59 "OptimaWorks$ValueDesk" "holders" "I", .fieldLink RX7 53 "OptimaWorks$ValueDesk" "member" "[I"] ++ wsX70 ++ (va_wsS RX7 188 yJ7_copyOf_c38d5 wsMJ7_copyOf_c38d5))
theorem iwsMX7_keepListed_in7 : ∀ w ∈ wsX70, w ∈ wsMX7_keepListed := fun _ h => List.mem_cons_of_mem _ (List.mem_append_left _ (List.mem_append_right _ h))
theorem gwsMX7_keepListed_0 : GoodIn wsMX7_keepListed (va_wsS RX7 188 yJ7_copyOf_c38d5 wsMJ7_copyOf_c38d5) := goodIn_sub (fun _ h => List.mem_cons_of_mem _ (List.mem_append_right _ h)) (gdS (by decide +kernel) gdwsMJ7_copyOf_c38d5)
theorem gdwsMX7_keepListed : wsMX7_keepListed.all goodWord = true := gdC rfl (gdA (gdA (by decide +kernel : ([.fieldLink RX7 166 "OptimaWorks$ValueDesk" "listed" "I", .fieldLink RX7 56 "OptimaWorks$ValueDesk" "list" "[J", .methodLink RX7 89 Lib.Math.max.name, .static Lib.Math.max.name, .initialized "java/lang/Math", .code Lib.Math.max.name Lib.Math.max.code 2 (some .int), .fieldLink RX7 59 "OptimaWorks$ValueDesk" "holders" "I", .fieldLink RX7 53 "OptimaWorks$ValueDesk" "member" "[I"] : List Cond).all goodWord = true) gdwsX70) (gdS (by decide +kernel) gdwsMJ7_copyOf_c38d5))
theorem hm_m_X7_keepListed_0 : (.fieldLink RX7 166 "OptimaWorks$ValueDesk" "listed" "I" : Cond) ∈ wsMX7_keepListed := by decide +kernel
theorem hm_m_X7_keepListed_1 : (.fieldLink RX7 56 "OptimaWorks$ValueDesk" "list" "[J" : Cond) ∈ wsMX7_keepListed := by decide +kernel
set_option maxHeartbeats 4000000 in
set_option maxRecDepth 100000 in
/-- one more is listed -/
theorem m_X7_keepListed (l : Launch) (dC : Nat → ClassId) (dI : Nat → Nat → Nat) (hV : Nat → Nat) (aV : Nat → Nat) (kV : Nat → ClassId) (iV_holders : Int32) (iV_rules : Int32) (fV_pairs : Nat → Int32) (fV_domain : Nat → Int32) (fV_kind : Nat → Int32) (fV_a : Nat → Int32) (fV_b : Nat → Int32) (fV_c : Nat → Int32) (fV_rulePairs : Nat → Int32) (fV_lastHolder : Nat → Int32) (fV_now : Nat → Int32) (iV_doneFor : Int32) (iV_changed : Int32) (gV_fore : Nat → Int64) (gV_back : Nat → Int64) (fV_together : Nat → Int32) (fV_member : Nat → Int32) (gV_list : Nat → Int64) (dV_list : Nat) (nV_list : Nat) (iV_listed : Int32) (iV_listDone : Int32) (b_iV_holders : 0 ≤ iV_holders.toInt ∧ iV_holders.toInt ≤ 10) (b_iV_rules : 0 ≤ iV_rules.toInt ∧ iV_rules.toInt ≤ 12) (b_fV_kind : ∀ q : Nat, 0 ≤ (fV_kind q).toInt ∧ (fV_kind q).toInt ≤ 4) (b_iV_changed : 0 ≤ iV_changed.toInt ∧ iV_changed.toInt ≤ 1) (b_fV_member : ∀ q : Nat, (-1) ≤ (fV_member q).toInt ∧ (fV_member q).toInt ≤ 15) (b_nV_list : 0 ≤ nV_list ∧ nV_list ≤ 20000) (b_iV_listed : (-1) ≤ iV_listed.toInt ∧ iV_listed.toInt ≤ 5000) (b_iV_listDone : 0 ≤ iV_listDone.toInt ∧ iV_listDone.toInt ≤ 1) (b_RuV : RuV fV_kind fV_a fV_b fV_c fV_lastHolder) (b_lst : iV_listed.toInt ≤ ((nV_list : Nat) : Int)) (hl0 : 0 ≤ iV_listed.toInt) (hl5 : iV_listed.toInt < 5000) (sz : Nat) : Met l yX7_keepListed wsMX7_keepListed ({ frames := 2, cells := 5001, slots := 60000, locals := 40 }) (va_Pc [.ref (hV 0)] (fun U => U.heap.size = sz ∧ va_P (dC, dI) vwCl (WV hV aV kV iV_holders iV_rules fV_pairs fV_domain fV_kind fV_a fV_b fV_c fV_rulePairs fV_lastHolder fV_now iV_doneFor iV_changed gV_fore gV_back fV_together fV_member gV_list dV_list nV_list iV_listed iV_listDone) U.heap ∧ va_K (dC, dI) vwCl (tV kV) U ∧ va_D (fun _ => True) (WV hV aV kV iV_holders iV_rules fV_pairs fV_domain fV_kind fV_a fV_b fV_c fV_rulePairs fV_lastHolder fV_now iV_doneFor iV_changed gV_fore gV_back fV_together fV_member gV_list dV_list nV_list iV_listed iV_listDone))) (va_Qv (fun (u : (Nat → Int64) × (Nat) × (Nat) × (Int32)) => (0 ≤ (u.2.2.1) ∧ (u.2.2.1) ≤ 20000) ∧ ((-1) ≤ (u.2.2.2).toInt ∧ (u.2.2.2).toInt ≤ 5000) ∧ ((u.2.2.2).toInt ≤ (((u.2.2.1) : Nat) : Int)) ∧ ((u.2.2.2).toInt = iV_listed.toInt + 1) ∧ (nV_list ≤ (u.2.2.1))) (fun (u : (Nat → Int64) × (Nat) × (Nat) × (Int32)) t => va_P (dC, dI) vwCl (WV hV aV kV iV_holders iV_rules fV_pairs fV_domain fV_kind fV_a fV_b fV_c fV_rulePairs fV_lastHolder fV_now iV_doneFor iV_changed gV_fore gV_back fV_together fV_member (u.1) (u.2.1) (u.2.2.1) (u.2.2.2) iV_listDone) t.heap ∧ va_D (va_A (WV hV aV kV iV_holders iV_rules fV_pairs fV_domain fV_kind fV_a fV_b fV_c fV_rulePairs fV_lastHolder fV_now iV_doneFor iV_changed gV_fore gV_back fV_together fV_member gV_list dV_list nV_list iV_listed iV_listDone) sz) (WV hV aV kV iV_holders iV_rules fV_pairs fV_domain fV_kind fV_a fV_b fV_c fV_rulePairs fV_lastHolder fV_now iV_doneFor iV_changed gV_fore gV_back fV_together fV_member (u.1) (u.2.1) (u.2.2.1) (u.2.2.2) iV_listDone) ∧ t.heap.size + (nV_list / 4) ≤ sz + ((u.2.2.1) / 4) ∧ nS sz t.heap + (2 * nV_list) ≤ (2 * (u.2.2.1))) (va_A (WV hV aV kV iV_holders iV_rules fV_pairs fV_domain fV_kind fV_a fV_b fV_c fV_rulePairs fV_lastHolder fV_now iV_doneFor iV_changed gV_fore gV_back fV_together fV_member gV_list dV_list nV_list iV_listed iV_listDone) sz)) 5001 60000 (va_A (WV hV aV kV iV_holders iV_rules fV_pairs fV_domain fV_kind fV_a fV_b fV_c fV_rulePairs fV_lastHolder fV_now iV_doneFor iV_changed gV_fore gV_back fV_together fV_member gV_list dV_list nV_list iV_listed iV_listDone) sz) := by
  refine Met.ofW (cc := cX7_keepListed) (maxL := 4) (ret := none) (by decide) rfl ?_
  intro p e s m args below meth c s₁ B hml hv
  obtain ⟨rfl, hsz, hP, hK, hD0⟩ := hv
  have hx := B.exec
  have hb := B.bytes
  have hr := B.returns
  have hts := atoms_spec (ws := wsMX7_keepListed) B.pre
  have hown : s.vm.findClass RX7 = some m.cls := findClass_of_methodNamed B.named
  have hlocks := B.notSynchronized
  subst hsz
  have hD := hD0.self (sz := s.heap.size)
  generalize hAe : va_A (WV hV aV kV iV_holders iV_rules fV_pairs fV_domain fV_kind fV_a fV_b fV_c fV_rulePairs fV_lastHolder fV_now iV_doneFor iV_changed gV_fore gV_back fV_together fV_member gV_list dV_list nV_list iV_listed iV_listDone) s.heap.size = A at hD ⊢
  have hA : ∀ q : Nat, s.heap.size ≤ q → A q := fun q h => by rw [← hAe]; exact Or.inr h
  have hS : va_S A s.heap s.heap [] := va_S.rf
  have hl := lv_entry ([.ref (hV 0)]) (n := 4) (Nat.le_of_ble_eq_true rfl)
  rw [lg_entry_eq]
  generalize (lg_sl ([.ref (hV 0)]) ++ List.replicate (4 - (lg_sl ([.ref (hV 0)])).length) Slot.unset).toArray = ls at hl ⊢
  have hl : lv_has ls 4 [(0, .ref (hV 0))] := hl
  refine W.widen (k := (nV_list / 4 - (nV_list / 4))) (n := (2 * nV_list - (2 * nV_list))) (Nat.zero_le _) (Nat.zero_le _) ?_
  refine lv_aload_n hx hb dX7_keepListed_0 rfl (lv_at hl 0 rfl) ?_
  refine va_get (D := (dC, dI)) (ci := 7) (v := .int iV_listed) (C := RX7) (T := TX7) (N := 20) hx hb hts iwsMX7_keepListed_in7 hown hK hP 0 rfl rfl 18 (by decide) (hts _ hm_m_X7_keepListed_0) (fun _ h9 => h9) rfl dX7_keepListed_1 ?_
  refine lv_aload_n hx hb dX7_keepListed_4 rfl (lv_at hl 0 rfl) ?_
  refine va_get (D := (dC, dI)) (ci := 7) (v := .ref dV_list) (C := RX7) (T := TX7) (N := 20) hx hb hts iwsMX7_keepListed_in7 hown hK hP 0 rfl rfl 17 (by decide) (hts _ hm_m_X7_keepListed_1) (fun _ h9 => h9) rfl dX7_keepListed_5 ?_
  refine va_alen hx hb hK hP 14 13 rfl rfl (v := (iI ((nV_list : Nat) : Int))) (iI_nat _) dX7_keepListed_8 ?_
  refine W.known (fun hzk hnk => ?_)
  refine W.widen (k := 5000) (n := 40000) (by omega) (by omega) ?_
  refine W.cut (pc := 34) (fun H locs ls stk => ∃ (gV_list_j2 : Nat → Int64) (dV_list_j2 : Nat) (nV_list_j2 : Nat), (0 ≤ nV_list_j2 ∧ nV_list_j2 ≤ 20000) ∧ (iV_listed.toInt ≤ ((nV_list_j2 : Nat) : Int)) ∧ (iV_listed.toInt < ((nV_list_j2 : Nat) : Int)) ∧ (nV_list ≤ nV_list_j2) ∧ (H.size + (nV_list / 4) ≤ s.heap.size + (nV_list_j2 / 4) ∧ nS s.heap.size H + (2 * nV_list) ≤ (2 * nV_list_j2)) ∧  stk = [] ∧ va_P (dC, dI) vwCl (WV hV aV kV iV_holders iV_rules fV_pairs fV_domain fV_kind fV_a fV_b fV_c fV_rulePairs fV_lastHolder fV_now iV_doneFor iV_changed gV_fore gV_back fV_together fV_member gV_list_j2 dV_list_j2 nV_list_j2 iV_listed iV_listDone) H ∧ va_D A (WV hV aV kV iV_holders iV_rules fV_pairs fV_domain fV_kind fV_a fV_b fV_c fV_rulePairs fV_lastHolder fV_now iV_doneFor iV_changed gV_fore gV_back fV_together fV_member gV_list_j2 dV_list_j2 nV_list_j2 iV_listed iV_listDone) ∧ va_S A s.heap H locs ∧ lv_has ls 4 [(0, .ref (hV 0))]) (fun join2 => ?_) ?_
  · refine W.tight (cells2 := (nV_list / 4 - (nV_list / 4))) (slots2 := (2 * nV_list - (2 * nV_list))) hzk hnk ?_
    refine lv_icmp_lt (tgt := 34) hx hb dX7_keepListed_9 (by decide) (fun c_9 => ?_) (fun c_9 => ?_)
    · first | (have t_9 : iV_listed.toInt < ((nV_list : Nat) : Int) := toI_lt c_9 rfl (iI_t (by omega) (by omega))) | skip
      have hl : lv_has _ _ ([(0, .ref (hV 0))]) := lv_sub hl [0] rfl
      refine W.known (fun hza hna => ?_)
      refine W.widen (k := 5000) (n := 40000) (by omega) (by omega) ?_
      exact join2 _ _ _ _ ⟨gV_list, dV_list, nV_list, (by first | exact b_nV_list | with_reducible assumption | exact ⟨by omega, by omega⟩ | assumption), (by first | with_reducible assumption | omega | (rw [iI_t (by omega) (by omega)]; omega) | (have h8 : (-1 : Int32).toInt = -1 := (by decide); have h7 : (0 : Int32).toInt = 0 := (by decide); omega)), (show iV_listed.toInt < ((nV_list : Nat) : Int) from by omega), (show nV_list ≤ nV_list from by omega), ⟨by omega, by omega⟩, rfl, hP, hD, hS, hl⟩
    · first | (have t_9 : ¬ iV_listed.toInt < ((nV_list : Nat) : Int) := toI_nlt c_9 rfl (iI_t (by omega) (by omega))) | skip
      refine lv_aload_n hx hb dX7_keepListed_12 rfl (lv_at hl 0 rfl) ?_
      refine lv_aload_n hx hb dX7_keepListed_13 rfl (lv_at hl 0 rfl) ?_
      refine va_get (D := (dC, dI)) (ci := 7) (v := .ref dV_list) (C := RX7) (T := TX7) (N := 20) hx hb hts iwsMX7_keepListed_in7 hown hK hP 0 rfl rfl 17 (by decide) (hts _ hm_m_X7_keepListed_1) (fun _ h9 => h9) rfl dX7_keepListed_14 ?_
      refine lv_bipush (v := 8) hx hb dX7_keepListed_17 (by decide) ?_
      refine lv_iconst (v := 2) hx hb dX7_keepListed_19 (by decide) ?_
      refine lv_aload_n hx hb dX7_keepListed_20 rfl (lv_at hl 0 rfl) ?_
      refine va_get (D := (dC, dI)) (ci := 7) (v := .int iV_listed) (C := RX7) (T := TX7) (N := 20) hx hb hts iwsMX7_keepListed_in7 hown hK hP 0 rfl rfl 18 (by decide) (hts _ hm_m_X7_keepListed_0) (fun _ h9 => h9) rfl dX7_keepListed_21 ?_
      refine lv_imul hx hb dX7_keepListed_24 ?_
      refine lv_topi (fun y4 hy4 => ?_)
      obtain rfl : (iI (2 * iV_listed.toInt)) = y4 := (hy4.trans (iI_mul2 (by decide : (2 : Int32) = iI 2) (iI_of _))).symm
      refine va_mmax hx hb (by rw [hml]; exact hl.1.symm) hown (hts (.methodLink RX7 89 Lib.Math.max.name) (by decide +kernel)) (hts (.static Lib.Math.max.name) (by decide +kernel)) (hts (.initialized "java/lang/Math") (by decide +kernel)) (hts (.code Lib.Math.max.name Lib.Math.max.code 2 (some .int)) (by decide +kernel)) (by first | decide +kernel | (dsimp only [headSpec] <;> omega)) (Nat.le_of_ble_eq_true rfl) (by first | decide +kernel | (dsimp only [headSpec] <;> omega)) (by first | decide +kernel | (dsimp only [headSpec] <;> omega)) dX7_keepListed_25 ?_
      refine lv_topi (fun v5 hv5 => ?_)
      have b_v5 : (8 ≤ v5.toInt ∧ (2 * iV_listed.toInt) ≤ v5.toInt) ∧ (v5.toInt = 8 ∨ v5.toInt = (2 * iV_listed.toInt)) := by rw [hv5]; exact max_t (by decide : (8 : Int32).toInt = 8) (iI_t (Int.le_trans (by decide) (Int.mul_le_mul_of_nonneg_left (b_iV_listed.1) (by decide))) (Int.le_trans (Int.mul_le_mul_of_nonneg_left (b_iV_listed.2) (by decide)) (by decide)))
      clear hv5
      obtain ⟨nn6, hnn6⟩ : ∃ k9 : Nat, (k9 : Int) = v5.toInt := ⟨(v5.toInt).toNat, by omega⟩
      have hPc : va_P (dC, dI) vwCl (WZ (fun _ => 0) (fun _ => dV_list) (fun _ => kV 13) nV_list gV_list) _ := hP.sub [14] rfl
      have hDc : va_D _ (WZ (fun _ => 0) (fun _ => dV_list) (fun _ => kV 13) nV_list gV_list) := hD.sub [14] (by decide) rfl
      have hKc : va_K (dC, dI) vwCl (tZ (fun _ => kV 13)) _ := hK.sub [13] rfl
      have hFc := va_free (wc := WZ (fun _ => 0) (fun _ => dV_list) (fun _ => kV 13) nV_list gV_list) hD hS hA [14] rfl
      refine va_callr (va_runS (As := [.ref dV_list, .int v5]) (rest := [.ref (hV 0)]) ⟨hx, hb, hml, hown, hts⟩ (m_J7_copyOf_c38d5 l dC dI (fun _ => 0) (fun _ => dV_list) (fun _ => kV 13) nV_list gV_list v5 nn6 ⟨by omega, by omega⟩  (rfl.trans hnn6.symm) (by omega) (by omega) s.heap.size) (va_cwS 2 hts gwsMX7_keepListed_0 rfl rfl rfl (by decide +kernel) ⟨(by first | decide +kernel | (dsimp only [headSpec] <;> omega)), (by first | decide +kernel | (dsimp only [headSpec] <;> omega))⟩) ⟨fun a U g mk q => by obtain ⟨q0, q1, qP, qK, qD⟩ := q; exact ⟨q0, q1, qP, va_K.moved (u := U) (U := U.calling g mk a) (Vm.Alike.refl U.vm) qK, qD⟩, fun U hU9 hW => ⟨rfl, by rw [hU9], by rw [hU9]; exact hPc, va_K.moved hW.alike hKc, hDc.weaken (fun _ _ _ _ => trivial)⟩⟩ rfl rfl hl.1 rfl (lv_room (Nat.le_of_ble_eq_true rfl)) dX7_keepListed_28 ⟨(by first | decide +kernel | (dsimp only [headSpec] <;> omega)), (by first | decide +kernel | (dsimp only [headSpec] <;> omega))⟩) hS (fun q _ h => hFc q h) hFc (fun uC6 ra6 t9_ H locs ht hvm hw9 hB9 hz1 hk1 hS => ?_)
      obtain ⟨hP, hD⟩ := va_join (wr := [(hV 0, .inr (7, [.int iV_holders, .int iV_rules, .ref (aV 0), .ref (aV 1), .ref (aV 2), .ref (aV 3), .ref (aV 4), .ref (aV 5), .ref (aV 6), .ref (aV 7), .ref (aV 8), .int iV_doneFor, .int iV_changed, .ref (aV 9), .ref (aV 10), .ref (aV 11), .ref (aV 12), .ref dV_list, .int iV_listed, .int iV_listDone])), (aV 0, .inl (kV 0, 16, .inl fV_pairs)), (aV 1, .inl (kV 1, 10, .inl fV_domain)), (aV 2, .inl (kV 2, 12, .inl fV_kind)), (aV 3, .inl (kV 3, 12, .inl fV_a)), (aV 4, .inl (kV 4, 12, .inl fV_b)), (aV 5, .inl (kV 5, 12, .inl fV_c)), (aV 6, .inl (kV 6, 192, .inl fV_rulePairs)), (aV 7, .inl (kV 7, 12, .inl fV_lastHolder)), (aV 8, .inl (kV 8, 10, .inl fV_now)), (aV 9, .inl (kV 9, 33, .inr (.inl gV_fore))), (aV 10, .inl (kV 10, 33, .inr (.inl gV_back))), (aV 11, .inl (kV 11, 1024, .inl fV_together)), (aV 12, .inl (kV 12, 10, .inl fV_member))]) (w1 := [(dV_list, .inl (kV 13, nV_list, .inr (.inl gV_list))), (ra6, .inl (kV 13, nn6, .inr (.inl uC6)))]) hP hD [14] [0, 1, 2, 3, 4, 5, 6, 7, 8, 9, 10, 11, 12, 13] rfl rfl (by decide) (by decide) hk1 hFc (fz_P ht hB9.1) hB9.2
      have hP : va_P (dC, dI) vwCl ((WV hV aV kV iV_holders iV_rules fV_pairs fV_domain fV_kind fV_a fV_b fV_c fV_rulePairs fV_lastHolder fV_now iV_doneFor iV_changed gV_fore gV_back fV_together fV_member gV_list dV_list nV_list iV_listed iV_listDone) ++ [(ra6, .inl (kV 13, nn6, .inr (.inl uC6)))]) H := hP.sub [0, 1, 2, 3, 4, 5, 6, 7, 8, 9, 10, 11, 12, 13, 14, 15] rfl
      have hD : va_D A ((WV hV aV kV iV_holders iV_rules fV_pairs fV_domain fV_kind fV_a fV_b fV_c fV_rulePairs fV_lastHolder fV_now iV_doneFor iV_changed gV_fore gV_back fV_together fV_member gV_list dV_list nV_list iV_listed iV_listDone) ++ [(ra6, .inl (kV 13, nn6, .inr (.inl uC6)))]) := hD.sub [0, 1, 2, 3, 4, 5, 6, 7, 8, 9, 10, 11, 12, 13, 14, 15] (by decide) rfl
      refine va_put (D := (dC, dI)) (ci := 7) (v := .ref ra6) (ty := .array .long) (C := RX7) (T := TX7) (N := 20) hx hb hts iwsMX7_keepListed_in7 tyX7 tyX7_ok nmX7 hown hK hP hD hS 0 rfl rfl 17 (by decide) (hts _ hm_m_X7_keepListed_1) (fun _ h9 => h9) rfl (by decide +kernel) rfl rfl (Nat.le_of_ble_eq_true rfl) dX7_keepListed_31 (fun H locs hP hD hS => ?_)
      have hP : va_P (dC, dI) vwCl (WV hV aV kV iV_holders iV_rules fV_pairs fV_domain fV_kind fV_a fV_b fV_c fV_rulePairs fV_lastHolder fV_now iV_doneFor iV_changed gV_fore gV_back fV_together fV_member uC6 ra6 nn6 iV_listed iV_listDone) _ := hP.sub [0, 1, 2, 3, 4, 5, 6, 7, 8, 9, 10, 11, 12, 13, 15] rfl
      have hD : va_D _ (WV hV aV kV iV_holders iV_rules fV_pairs fV_domain fV_kind fV_a fV_b fV_c fV_rulePairs fV_lastHolder fV_now iV_doneFor iV_changed gV_fore gV_back fV_together fV_member uC6 ra6 nn6 iV_listed iV_listDone) := hD.sub [0, 1, 2, 3, 4, 5, 6, 7, 8, 9, 10, 11, 12, 13, 15] (by decide) rfl
      have hP : va_P (dC, dI) vwCl (WV hV aV kV iV_holders iV_rules fV_pairs fV_domain fV_kind fV_a fV_b fV_c fV_rulePairs fV_lastHolder fV_now iV_doneFor iV_changed gV_fore gV_back fV_together fV_member uC6 ra6 nn6 iV_listed iV_listDone) H := hP
      have hD := fz_sd hP (hD) rfl
      refine W.widen (k := (nn6 / 4 - (nV_list / 4))) (n := (2 * nn6 - (2 * nV_list))) (by omega) (by omega) ?_
      have hl : lv_has _ _ ([(0, .ref (hV 0))]) := lv_sub hl [0] rfl
      refine W.known (fun hza hna => ?_)
      refine W.widen (k := 5000) (n := 40000) (by omega) (by omega) ?_
      exact join2 _ _ _ _ ⟨uC6, ra6, nn6, (by first | exact b_nn6 | with_reducible assumption | exact ⟨by omega, by omega⟩ | assumption), (by first | with_reducible assumption | omega | (rw [iI_t (by omega) (by omega)]; omega) | (have h8 : (-1 : Int32).toInt = -1 := (by decide); have h7 : (0 : Int32).toInt = 0 := (by decide); omega)), (show iV_listed.toInt < ((nn6 : Nat) : Int) from by omega), (show nV_list ≤ nn6 from by omega), ⟨by omega, by omega⟩, rfl, hP, hD, hS, hl⟩
  · intro H locs ls stk
    refine fz_e3 ?_
    intro gV_list_j2 dV_list_j2 nV_list_j2
    refine fz_a10 ?_
    intro b_nV_list_j2 b_lst_j2 hjn hgm0_j2 hzn9_4 hst9_5 hP hD hS hl
    have hzj := hzn9_4.1
    have hnj := hzn9_4.2
    clear hzn9_4
    subst hst9_5
    refine W.tight (cells2 := (nV_list_j2 / 4 - (nV_list / 4))) (slots2 := (2 * nV_list_j2 - (2 * nV_list))) (tg1 hzj hS.1) (tg2 hnj) ?_
    refine lv_lconst (v := 0) hx hb dX7_keepListed_34 (by decide) ?_
    refine lv_lstore_n hx hb dX7_keepListed_35 rfl hl (by decide) rfl (fun ls (hl : lv_has ls _ ([(1, .long 0), (0, .ref (hV 0))])) => ?_)
    refine lv_aload_n hx hb dX7_keepListed_36 rfl (lv_at hl 1 rfl) ?_
    refine va_get (D := (dC, dI)) (ci := 7) (v := .int iV_holders) (C := RX7) (T := TX7) (N := 20) hx hb hts iwsMX7_keepListed_in7 hown hK hP 0 rfl rfl 0 (by decide) (hts (.fieldLink RX7 59 "OptimaWorks$ValueDesk" "holders" "I") (by decide +kernel)) (fun _ h9 => h9) rfl dX7_keepListed_37 ?_
    refine lv_iconst (v := 1) hx hb dX7_keepListed_40 (by decide) ?_
    refine lv_isub hx hb dX7_keepListed_41 ?_
    refine lv_topi (fun y7 hy7 => ?_)
    obtain rfl : (iI (iV_holders.toInt - 1)) = y7 := (hy7.trans (iI_sub2 (iI_of _) (by decide : (1 : Int32) = iI 1))).symm
    refine lv_istore_n hx hb dX7_keepListed_42 rfl hl (by decide) rfl (fun ls (hl : lv_has ls _ ([(3, .int (iI (iV_holders.toInt - 1))), (1, .long 0), (0, .ref (hV 0))])) => ?_)
    have hl : lv_has _ _ ([(3, .int (iI (iV_holders.toInt - 1))), (1, .long 0), (0, .ref (hV 0))]) := lv_sub hl [0, 1, 2] rfl
    refine (fun (loop : ∀ (n9 : Nat) (l3_x43 : Int32) (l1_x43 : Int64) (H : Heap) (locs : List Loc) (ls : Array Slot), ((-1) ≤ l3_x43.toInt ∧ l3_x43.toInt ≤ 9) → (l3_x43.toInt - (-1) < ((n9 : Nat) : Int)) → va_P (dC, dI) vwCl (WV hV aV kV iV_holders iV_rules fV_pairs fV_domain fV_kind fV_a fV_b fV_c fV_rulePairs fV_lastHolder fV_now iV_doneFor iV_changed gV_fore gV_back fV_together fV_member gV_list_j2 dV_list_j2 nV_list_j2 iV_listed iV_listDone) H → va_D A (WV hV aV kV iV_holders iV_rules fV_pairs fV_domain fV_kind fV_a fV_b fV_c fV_rulePairs fV_lastHolder fV_now iV_doneFor iV_changed gV_fore gV_back fV_together fV_member gV_list_j2 dV_list_j2 nV_list_j2 iV_listed iV_listDone) → va_S A s.heap H locs → lv_has ls 4 [(3, .int l3_x43), (1, .long l1_x43), (0, .ref (hV 0))] → W p l e _ s m _ below meth c H locs (nV_list_j2 / 4 - (nV_list / 4)) (2 * nV_list_j2 - (2 * nV_list)) _ (F0 m 43 ls [])) => loop (11) (iI (iV_holders.toInt - 1)) 0 _ _ _ (iI_rng (Int.le_trans (by decide) (Int.sub_le_sub (b_iV_holders.1) (Int.le_refl _))) (Int.le_trans (Int.sub_le_sub (b_iV_holders.2) (Int.le_refl _)) (by decide)) (by decide) (by decide)) ((by have e9 : ((iI (iV_holders.toInt - 1))).toInt = (iV_holders.toInt - 1) := (iI_t (Int.le_trans (by decide) (Int.sub_le_sub (b_iV_holders.1) (Int.le_refl _))) (Int.le_trans (Int.sub_le_sub (b_iV_holders.2) (Int.le_refl _)) (by decide))); omega)) hP hD hS hl) ?_
    intro n9
    induction n9 with
    | zero => intro l3_x43 l1_x43 H locs ls b_l3_x43 hf9; exact False.elim (by omega)
    | succ n9 ihx43 =>
      intro l3_x43 l1_x43 H locs ls b_l3_x43 hfx43 hP hD hS hl
      refine lv_iload_n hx hb dX7_keepListed_43 rfl (lv_at hl 0 rfl) ?_
      refine lv_if_lt (tgt := 65) hx hb dX7_keepListed_44 (by decide) (fun c_44 => ?_) (fun c_44 => ?_)
      · have t_44 : l3_x43.toInt < 0 := toI_lt c_44 rfl (by decide : (0 : Int32).toInt = 0)
        refine lv_aload_n hx hb dX7_keepListed_65 rfl (lv_at hl 2 rfl) ?_
        refine va_get (D := (dC, dI)) (ci := 7) (v := .ref dV_list_j2) (C := RX7) (T := TX7) (N := 20) hx hb hts iwsMX7_keepListed_in7 hown hK hP 0 rfl rfl 17 (by decide) (hts _ hm_m_X7_keepListed_1) (fun _ h9 => h9) rfl dX7_keepListed_66 ?_
        refine lv_aload_n hx hb dX7_keepListed_69 rfl (lv_at hl 2 rfl) ?_
        refine va_get (D := (dC, dI)) (ci := 7) (v := .int iV_listed) (C := RX7) (T := TX7) (N := 20) hx hb hts iwsMX7_keepListed_in7 hown hK hP 0 rfl rfl 18 (by decide) (hts _ hm_m_X7_keepListed_0) (fun _ h9 => h9) rfl dX7_keepListed_70 ?_
        refine lv_lload_n hx hb dX7_keepListed_73 rfl (lv_at hl 1 rfl) ?_
        refine va_last (cA := kV 13) (n := nV_list_j2) (f := gV_list_j2) hx hb hK hP hD hS 14 13 rfl rfl (vp_in_iff.mpr ⟨(by omega), (by omega)⟩) dX7_keepListed_74 (fun H locs hP hD hS => ?_)
        obtain ⟨u32, hu32⟩ : ∃ f9, f9 = vp_updL gV_list_j2 (iV_listed).toNatClampNeg l1_x43 := ⟨_, rfl⟩
        have hP : va_P (dC, dI) vwCl (WV hV aV kV iV_holders iV_rules fV_pairs fV_domain fV_kind fV_a fV_b fV_c fV_rulePairs fV_lastHolder fV_now iV_doneFor iV_changed gV_fore gV_back fV_together fV_member u32 dV_list_j2 nV_list_j2 iV_listed iV_listDone) H := by rw [hu32]; exact hP
        have hD : va_D A (WV hV aV kV iV_holders iV_rules fV_pairs fV_domain fV_kind fV_a fV_b fV_c fV_rulePairs fV_lastHolder fV_now iV_doneFor iV_changed gV_fore gV_back fV_together fV_member u32 dV_list_j2 nV_list_j2 iV_listed iV_listDone) := by rw [hu32]; exact hD
        clear hu32
        refine lv_aload_n hx hb dX7_keepListed_75 rfl (lv_at hl 2 rfl) ?_
        refine lv_dup hx hb dX7_keepListed_76 rfl ?_
        refine va_get (D := (dC, dI)) (ci := 7) (v := .int iV_listed) (C := RX7) (T := TX7) (N := 20) hx hb hts iwsMX7_keepListed_in7 hown hK hP 0 rfl rfl 18 (by decide) (hts _ hm_m_X7_keepListed_0) (fun _ h9 => h9) rfl dX7_keepListed_77 ?_
        refine lv_iconst (v := 1) hx hb dX7_keepListed_80 (by decide) ?_
        refine lv_iadd hx hb dX7_keepListed_81 ?_
        refine lv_topi (fun y33 hy33 => ?_)
        obtain rfl : (iI (iV_listed.toInt + 1)) = y33 := (hy33.trans (iI_add2 (iI_of _) (by decide : (1 : Int32) = iI 1))).symm
        refine va_put (D := (dC, dI)) (ci := 7) (v := .int (iI (iV_listed.toInt + 1))) (ty := .int) (C := RX7) (T := TX7) (N := 20) hx hb hts iwsMX7_keepListed_in7 tyX7 tyX7_ok nmX7 hown hK hP hD hS 0 rfl rfl 18 (by decide) (hts _ hm_m_X7_keepListed_0) (fun _ h9 => h9) rfl (by decide +kernel) rfl rfl (Nat.le_of_ble_eq_true rfl) dX7_keepListed_82 (fun H locs hP hD hS => ?_)
        have hP : va_P (dC, dI) vwCl (WV hV aV kV iV_holders iV_rules fV_pairs fV_domain fV_kind fV_a fV_b fV_c fV_rulePairs fV_lastHolder fV_now iV_doneFor iV_changed gV_fore gV_back fV_together fV_member u32 dV_list_j2 nV_list_j2 (iI (iV_listed.toInt + 1)) iV_listDone) H := hP
        have hD := fz_sd hP (hD) rfl
        refine W.known (fun hz9 hn9 => ?_)
        refine W.widen (k := 5001) (n := 60000) (by omega) (by omega) ?_
        exact W.vret hx hb hr (fun t9_ ht hW => ⟨⟨(u32, dV_list_j2, nV_list_j2, (iI (iV_listed.toInt + 1))), rfl, ⟨(by (try dsimp only); exact (by first | exact b_nV_list_j2 | with_reducible assumption | exact ⟨by omega, by omega⟩ | assumption)), (by (try dsimp only); exact (iI_rng (Int.le_trans (by decide) (Int.add_le_add (b_iV_listed.1) (Int.le_refl _))) (by omega) (by decide) (by decide))), (by (try dsimp only); exact (by first | with_reducible assumption | omega | (rw [iI_t (by omega) (by omega)]; omega) | (have h8 : (-1 : Int32).toInt = -1 := (by decide); have h7 : (0 : Int32).toInt = 0 := (by decide); omega))), (by (try dsimp only); exact (iI_t (by omega) (by omega))), (by (try dsimp only); omega)⟩, by rw [ht]; exact hP, hD, by rw [ht]; (try dsimp only); omega, by rw [ht]; (try dsimp only); omega⟩, hS.F ht⟩) hS.2.2 dX7_keepListed_85
      · have t_44 : ¬ l3_x43.toInt < 0 := toI_nlt c_44 rfl (by decide : (0 : Int32).toInt = 0)
        refine lv_lload_n hx hb dX7_keepListed_47 rfl (lv_at hl 1 rfl) ?_
        refine lv_iconst (v := 4) hx hb dX7_keepListed_48 (by decide) ?_
        refine lv_lshl hx hb dX7_keepListed_49 rfl ?_
        refine lv_topl (fun v34 hv34 => ?_)
        clear hv34
        refine lv_aload_n hx hb dX7_keepListed_50 rfl (lv_at hl 2 rfl) ?_
        refine va_get (D := (dC, dI)) (ci := 7) (v := .ref (aV 12)) (C := RX7) (T := TX7) (N := 20) hx hb hts iwsMX7_keepListed_in7 hown hK hP 0 rfl rfl 16 (by decide) (hts (.fieldLink RX7 53 "OptimaWorks$ValueDesk" "member" "[I") (by decide +kernel)) (fun _ h9 => h9) rfl dX7_keepListed_51 ?_
        refine lv_iload_n hx hb dX7_keepListed_54 rfl (lv_at hl 0 rfl) ?_
        refine va_iald (cA := kV 12) (n := 10) (f := fV_member) hx hb hK hP 13 12 rfl rfl (vp_in_iff.mpr ⟨(by omega), (Int.lt_of_le_of_lt (b_l3_x43.2) (by decide))⟩) dX7_keepListed_55 ?_
        refine lv_topi (fun v35 hv35 => ?_)
        have b_v35 : (-1) ≤ v35.toInt ∧ v35.toInt ≤ 15 := by rw [hv35]; exact b_fV_member _
        clear hv35
        refine lv_i2l hx hb dX7_keepListed_56 rfl ?_
        refine lv_topl (fun v36 hv36 => ?_)
        clear hv36
        refine lv_lor hx hb dX7_keepListed_57 ?_
        refine lv_topl (fun v37 hv37 => ?_)
        clear hv37
        refine lv_lstore_n hx hb dX7_keepListed_58 rfl hl (by decide) rfl (fun ls (hl : lv_has ls _ ([(1, .long v37), (3, .int l3_x43), (0, .ref (hV 0))])) => ?_)
        refine lv_iinc (v := (iI (l3_x43.toInt + (-1)))) hx hb dX7_keepListed_59 hl (k := 1) rfl (iI_add2 (iI_of _) (by decide : ((-1) : Int32) = iI (-1))) (by decide) rfl (fun ls (hl : lv_has ls _ ([(3, .int (iI (l3_x43.toInt + (-1)))), (1, .long v37), (0, .ref (hV 0))])) => ?_)
        refine lv_goto (tgt := 43) hx hb dX7_keepListed_62 (by decide) ?_
        have hl : lv_has _ _ ([(3, .int (iI (l3_x43.toInt + (-1)))), (1, .long v37), (0, .ref (hV 0))]) := lv_sub hl [0, 1, 2] rfl
        exact ihx43 (iI (l3_x43.toInt + (-1))) v37 _ _ _ (iI_rng (by omega) (Int.le_trans (Int.add_le_add (b_l3_x43.2) (Int.le_refl _)) (by decide)) (by decide) (by decide)) (by have e9 : ((iI (l3_x43.toInt + (-1)))).toInt = (l3_x43.toInt + (-1)) := (iI_t (Int.le_trans (by decide) (Int.add_le_add (b_l3_x43.1) (Int.le_refl _))) (Int.le_trans (Int.add_le_add (b_l3_x43.2) (Int.le_refl _)) (by decide))); omega) hP hD hS hl
theorem dX7_makeListing_0 : decode cX7_makeListing 0 = .ok (.aload_n 0, 1) := dk_42 (by decide +kernel)
theorem dX7_makeListing_1 : decode cX7_makeListing 1 = .ok (.aload_n 0, 1) := dk_42 (by decide +kernel)
theorem dX7_makeListing_2 : decode cX7_makeListing 2 = .ok (.invokevirtual 175, 3) := dk_182 (by decide +kernel)
theorem dX7_makeListing_5 : decode cX7_makeListing 5 = .ok (.ifCond .eq 7, 3) := dk_153 (by decide +kernel)
theorem dX7_makeListing_8 : decode cX7_makeListing 8 = .ok (.iconst 0, 1) := dk_3 (by decide +kernel)
theorem dX7_makeListing_9 : decode cX7_makeListing 9 = .ok (.goto 4, 3) := dk_167 (by decide +kernel)
theorem dX7_makeListing_12 : decode cX7_makeListing 12 = .ok (.iconst (-1), 1) := dk_2 (by decide +kernel)
theorem dX7_makeListing_13 : decode cX7_makeListing 13 = .ok (.putfield 166, 3) := dk_181 (by decide +kernel)
theorem dX7_makeListing_16 : decode cX7_makeListing 16 = .ok (.aload_n 0, 1) := dk_42 (by decide +kernel)
theorem dX7_makeListing_17 : decode cX7_makeListing 17 = .ok (.getfield 166, 3) := dk_180 (by decide +kernel)
theorem dX7_makeListing_20 : decode cX7_makeListing 20 = .ok (.iconst (-1), 1) := dk_2 (by decide +kernel)
theorem dX7_makeListing_21 : decode cX7_makeListing 21 = .ok (.if_icmp .ne 4, 3) := dk_160 (by decide +kernel)
theorem dX7_makeListing_24 : decode cX7_makeListing 24 = .ok (.return_, 1) := dk_177 (by decide +kernel)
theorem dX7_makeListing_25 : decode cX7_makeListing 25 = .ok (.aload_n 0, 1) := dk_42 (by decide +kernel)
theorem dX7_makeListing_26 : decode cX7_makeListing 26 = .ok (.getfield 59, 3) := dk_180 (by decide +kernel)
theorem dX7_makeListing_29 : decode cX7_makeListing 29 = .ok (.ifCond .ne 8, 3) := dk_154 (by decide +kernel)
theorem dX7_makeListing_32 : decode cX7_makeListing 32 = .ok (.aload_n 0, 1) := dk_42 (by decide +kernel)
theorem dX7_makeListing_33 : decode cX7_makeListing 33 = .ok (.invokevirtual 178, 3) := dk_182 (by decide +kernel)
theorem dX7_makeListing_36 : decode cX7_makeListing 36 = .ok (.return_, 1) := dk_177 (by decide +kernel)
theorem dX7_makeListing_37 : decode cX7_makeListing 37 = .ok (.aload_n 0, 1) := dk_42 (by decide +kernel)
theorem dX7_makeListing_38 : decode cX7_makeListing 38 = .ok (.iconst 1, 1) := dk_4 (by decide +kernel)
theorem dX7_makeListing_39 : decode cX7_makeListing 39 = .ok (.aload_n 0, 1) := dk_42 (by decide +kernel)
theorem dX7_makeListing_40 : decode cX7_makeListing 40 = .ok (.getfield 62, 3) := dk_180 (by decide +kernel)
theorem dX7_makeListing_43 : decode cX7_makeListing 43 = .ok (.ishl, 1) := dk_120 (by decide +kernel)
theorem dX7_makeListing_44 : decode cX7_makeListing 44 = .ok (.iconst 1, 1) := dk_4 (by decide +kernel)
theorem dX7_makeListing_45 : decode cX7_makeListing 45 = .ok (.isub, 1) := dk_100 (by decide +kernel)
theorem dX7_makeListing_46 : decode cX7_makeListing 46 = .ok (.invokevirtual 99, 3) := dk_182 (by decide +kernel)
theorem dX7_makeListing_49 : decode cX7_makeListing 49 = .ok (.iconst 0, 1) := dk_3 (by decide +kernel)
theorem dX7_makeListing_50 : decode cX7_makeListing 50 = .ok (.istore_n 1, 1) := dk_60 (by decide +kernel)
theorem dX7_makeListing_51 : decode cX7_makeListing 51 = .ok (.aload_n 0, 1) := dk_42 (by decide +kernel)
theorem dX7_makeListing_52 : decode cX7_makeListing 52 = .ok (.getfield 53, 3) := dk_180 (by decide +kernel)
theorem dX7_makeListing_55 : decode cX7_makeListing 55 = .ok (.iconst 0, 1) := dk_3 (by decide +kernel)
theorem dX7_makeListing_56 : decode cX7_makeListing 56 = .ok (.iconst (-1), 1) := dk_2 (by decide +kernel)
theorem dX7_makeListing_57 : decode cX7_makeListing 57 = .ok (.iastore, 1) := dk_79 (by decide +kernel)
theorem dX7_makeListing_58 : decode cX7_makeListing 58 = .ok (.iconst 0, 1) := dk_3 (by decide +kernel)
theorem dX7_makeListing_59 : decode cX7_makeListing 59 = .ok (.istore_n 2, 1) := dk_61 (by decide +kernel)
theorem dX7_makeListing_60 : decode cX7_makeListing 60 = .ok (.iload_n 2, 1) := dk_28 (by decide +kernel)
theorem dX7_makeListing_61 : decode cX7_makeListing 61 = .ok (.ldc 181, 2) := dk_18 (by decide +kernel)
theorem dX7_makeListing_63 : decode cX7_makeListing 63 = .ok (.if_icmp .ge 85, 3) := dk_162 (by decide +kernel)
theorem dX7_makeListing_66 : decode cX7_makeListing 66 = .ok (.iload_n 1, 1) := dk_27 (by decide +kernel)
theorem dX7_makeListing_67 : decode cX7_makeListing 67 = .ok (.ifCond .lt 81, 3) := dk_155 (by decide +kernel)
theorem dX7_makeListing_70 : decode cX7_makeListing 70 = .ok (.aload_n 0, 1) := dk_42 (by decide +kernel)
theorem dX7_makeListing_71 : decode cX7_makeListing 71 = .ok (.getfield 166, 3) := dk_180 (by decide +kernel)
theorem dX7_makeListing_74 : decode cX7_makeListing 74 = .ok (.sipush 5000, 3) := dk_17 (by decide +kernel)
theorem dX7_makeListing_77 : decode cX7_makeListing 77 = .ok (.if_icmp .ge 71, 3) := dk_162 (by decide +kernel)
theorem dX7_makeListing_80 : decode cX7_makeListing 80 = .ok (.aload_n 0, 1) := dk_42 (by decide +kernel)
theorem dX7_makeListing_81 : decode cX7_makeListing 81 = .ok (.getfield 53, 3) := dk_180 (by decide +kernel)
theorem dX7_makeListing_84 : decode cX7_makeListing 84 = .ok (.iload_n 1, 1) := dk_27 (by decide +kernel)
theorem dX7_makeListing_85 : decode cX7_makeListing 85 = .ok (.aload_n 0, 1) := dk_42 (by decide +kernel)
theorem dX7_makeListing_86 : decode cX7_makeListing 86 = .ok (.iload_n 1, 1) := dk_27 (by decide +kernel)
theorem dX7_makeListing_87 : decode cX7_makeListing 87 = .ok (.invokevirtual 182, 3) := dk_182 (by decide +kernel)
theorem dX7_makeListing_90 : decode cX7_makeListing 90 = .ok (.iastore, 1) := dk_79 (by decide +kernel)
theorem dX7_makeListing_91 : decode cX7_makeListing 91 = .ok (.aload_n 0, 1) := dk_42 (by decide +kernel)
theorem dX7_makeListing_92 : decode cX7_makeListing 92 = .ok (.getfield 53, 3) := dk_180 (by decide +kernel)
theorem dX7_makeListing_95 : decode cX7_makeListing 95 = .ok (.iload_n 1, 1) := dk_27 (by decide +kernel)
theorem dX7_makeListing_96 : decode cX7_makeListing 96 = .ok (.iaload, 1) := dk_46 (by decide +kernel)
theorem dX7_makeListing_97 : decode cX7_makeListing 97 = .ok (.iconst (-1), 1) := dk_2 (by decide +kernel)
theorem dX7_makeListing_98 : decode cX7_makeListing 98 = .ok (.if_icmp .ne 9, 3) := dk_160 (by decide +kernel)
theorem dX7_makeListing_101 : decode cX7_makeListing 101 = .ok (.iinc 1 (-1), 3) := dk_132 (by decide +kernel)
theorem dX7_makeListing_104 : decode cX7_makeListing 104 = .ok (.goto 38, 3) := dk_167 (by decide +kernel)
theorem dX7_makeListing_107 : decode cX7_makeListing 107 = .ok (.aload_n 0, 1) := dk_42 (by decide +kernel)
theorem dX7_makeListing_108 : decode cX7_makeListing 108 = .ok (.iload_n 1, 1) := dk_27 (by decide +kernel)
theorem dX7_makeListing_109 : decode cX7_makeListing 109 = .ok (.invokevirtual 185, 3) := dk_182 (by decide +kernel)
theorem dX7_makeListing_112 : decode cX7_makeListing 112 = .ok (.ifCond .eq 30, 3) := dk_153 (by decide +kernel)
theorem dX7_makeListing_115 : decode cX7_makeListing 115 = .ok (.iload_n 1, 1) := dk_27 (by decide +kernel)
theorem dX7_makeListing_116 : decode cX7_makeListing 116 = .ok (.iconst 1, 1) := dk_4 (by decide +kernel)
theorem dX7_makeListing_117 : decode cX7_makeListing 117 = .ok (.iadd, 1) := dk_96 (by decide +kernel)
theorem dX7_makeListing_118 : decode cX7_makeListing 118 = .ok (.aload_n 0, 1) := dk_42 (by decide +kernel)
theorem dX7_makeListing_119 : decode cX7_makeListing 119 = .ok (.getfield 59, 3) := dk_180 (by decide +kernel)
theorem dX7_makeListing_122 : decode cX7_makeListing 122 = .ok (.if_icmp .ge 16, 3) := dk_162 (by decide +kernel)
theorem dX7_makeListing_125 : decode cX7_makeListing 125 = .ok (.iinc 1 1, 3) := dk_132 (by decide +kernel)
theorem dX7_makeListing_128 : decode cX7_makeListing 128 = .ok (.aload_n 0, 1) := dk_42 (by decide +kernel)
theorem dX7_makeListing_129 : decode cX7_makeListing 129 = .ok (.getfield 53, 3) := dk_180 (by decide +kernel)
theorem dX7_makeListing_132 : decode cX7_makeListing 132 = .ok (.iload_n 1, 1) := dk_27 (by decide +kernel)
theorem dX7_makeListing_133 : decode cX7_makeListing 133 = .ok (.iconst (-1), 1) := dk_2 (by decide +kernel)
theorem dX7_makeListing_134 : decode cX7_makeListing 134 = .ok (.iastore, 1) := dk_79 (by decide +kernel)
theorem dX7_makeListing_135 : decode cX7_makeListing 135 = .ok (.goto 7, 3) := dk_167 (by decide +kernel)
theorem dX7_makeListing_138 : decode cX7_makeListing 138 = .ok (.aload_n 0, 1) := dk_42 (by decide +kernel)
theorem dX7_makeListing_139 : decode cX7_makeListing 139 = .ok (.invokevirtual 178, 3) := dk_182 (by decide +kernel)
theorem dX7_makeListing_142 : decode cX7_makeListing 142 = .ok (.iinc 2 1, 3) := dk_132 (by decide +kernel)
theorem dX7_makeListing_145 : decode cX7_makeListing 145 = .ok (.goto (-85), 3) := dk_167 (by decide +kernel)
theorem dX7_makeListing_148 : decode cX7_makeListing 148 = .ok (.return_, 1) := dk_177 (by decide +kernel)
def wsMX7_makeListing : List Cond := .code yX7_makeListing cX7_makeListing 3 none :: ([.fieldLink RX7 166 "OptimaWorks$ValueDesk" "listed" "I", .fieldLink RX7 59 "OptimaWorks$ValueDesk" "holders" "I", .fieldLink RX7 62 "OptimaWorks$ValueDesk" "rules" "I", .fieldLink RX7 53 "OptimaWorks$ValueDesk" "member" "[I", .constant RX7 181 1000000] ++ wsX70 ++ (wsV RX7 175 RX7 yX7_isListable wsMX7_isListable) ++ (wsV RX7 99 RX7 yX7_narrow wsMX7_narrow) ++ (wsV RX7 182 RX7 yX7_nextValue wsMX7_nextValue) ++ (wsV RX7 185 RX7 yX7_keepsAt wsMX7_keepsAt) ++ (wsV RX7 178 RX7 yX7_keepListed wsMX7_keepListed))
theorem iwsMX7_makeListing_in7 : ∀ w ∈ wsX70, w ∈ wsMX7_makeListing := fun _ h => List.mem_cons_of_mem _ (List.mem_append_left _ (List.mem_append_left _ (List.mem_append_left _ (List.mem_append_left _ (List.mem_append_left _ (List.mem_append_right _ h))))))
theorem gwsMX7_makeListing_0 : GoodIn wsMX7_makeListing (wsV RX7 175 RX7 yX7_isListable wsMX7_isListable) := goodIn_sub (fun _ h => List.mem_cons_of_mem _ (List.mem_append_left _ (List.mem_append_left _ (List.mem_append_left _ (List.mem_append_left _ (List.mem_append_right _ h)))))) (gdV (by decide +kernel) gdwsMX7_isListable)
theorem gwsMX7_makeListing_1 : GoodIn wsMX7_makeListing (wsV RX7 99 RX7 yX7_narrow wsMX7_narrow) := goodIn_sub (fun _ h => List.mem_cons_of_mem _ (List.mem_append_left _ (List.mem_append_left _ (List.mem_append_left _ (List.mem_append_right _ h))))) (gdV (by decide +kernel) gdwsMX7_narrow)
theorem gwsMX7_makeListing_2 : GoodIn wsMX7_makeListing (wsV RX7 182 RX7 yX7_nextValue wsMX7_nextValue) := goodIn_sub (fun _ h => List.mem_cons_of_mem _ (List.mem_append_left _ (List.mem_append_left _ (List.mem_append_right _ h)))) (gdV (by decide +kernel) gdwsMX7_nextValue)
theorem gwsMX7_makeListing_3 : GoodIn wsMX7_makeListing (wsV RX7 185 RX7 yX7_keepsAt wsMX7_keepsAt) := goodIn_sub (fun _ h => List.mem_cons_of_mem _ (List.mem_append_left _ (List.mem_append_right _ h))) (gdV (by decide +kernel) gdwsMX7_keepsAt)
theorem gwsMX7_makeListing_4 : GoodIn wsMX7_makeListing (wsV RX7 178 RX7 yX7_keepListed wsMX7_keepListed) := goodIn_sub (fun _ h => List.mem_cons_of_mem _ (List.mem_append_right _ h)) (gdV (by decide +kernel) gdwsMX7_keepListed)
theorem gdwsMX7_makeListing : wsMX7_makeListing.all goodWord = true := gdC rfl (gdA (gdA (gdA (gdA (gdA (gdA (by decide +kernel : ([.fieldLink RX7 166 "OptimaWorks$ValueDesk" "listed" "I", .fieldLink RX7 59 "OptimaWorks$ValueDesk" "holders" "I", .fieldLink RX7 62 "OptimaWorks$ValueDesk" "rules" "I", .fieldLink RX7 53 "OptimaWorks$ValueDesk" "member" "[I", .constant RX7 181 1000000] : List Cond).all goodWord = true) gdwsX70) (gdV (by decide +kernel) gdwsMX7_isListable)) (gdV (by decide +kernel) gdwsMX7_narrow)) (gdV (by decide +kernel) gdwsMX7_nextValue)) (gdV (by decide +kernel) gdwsMX7_keepsAt)) (gdV (by decide +kernel) gdwsMX7_keepListed))
theorem hm_m_X7_makeListing_0 : (.fieldLink RX7 166 "OptimaWorks$ValueDesk" "listed" "I" : Cond) ∈ wsMX7_makeListing := by decide +kernel
theorem hm_m_X7_makeListing_1 : (.fieldLink RX7 59 "OptimaWorks$ValueDesk" "holders" "I" : Cond) ∈ wsMX7_makeListing := by decide +kernel
theorem hm_m_X7_makeListing_2 : (.fieldLink RX7 53 "OptimaWorks$ValueDesk" "member" "[I" : Cond) ∈ wsMX7_makeListing := by decide +kernel
set_option maxHeartbeats 4000000 in
set_option maxRecDepth 100000 in
/-- the listing is made -/
theorem m_X7_makeListing (l : Launch) (dC : Nat → ClassId) (dI : Nat → Nat → Nat) (hV : Nat → Nat) (aV : Nat → Nat) (kV : Nat → ClassId) (iV_holders : Int32) (iV_rules : Int32) (fV_pairs : Nat → Int32) (fV_domain : Nat → Int32) (fV_kind : Nat → Int32) (fV_a : Nat → Int32) (fV_b : Nat → Int32) (fV_c : Nat → Int32) (fV_rulePairs : Nat → Int32) (fV_lastHolder : Nat → Int32) (fV_now : Nat → Int32) (iV_doneFor : Int32) (iV_changed : Int32) (gV_fore : Nat → Int64) (gV_back : Nat → Int64) (fV_together : Nat → Int32) (fV_member : Nat → Int32) (gV_list : Nat → Int64) (dV_list : Nat) (nV_list : Nat) (iV_listed : Int32) (iV_listDone : Int32) (b_iV_holders : 0 ≤ iV_holders.toInt ∧ iV_holders.toInt ≤ 10) (b_iV_rules : 0 ≤ iV_rules.toInt ∧ iV_rules.toInt ≤ 12) (b_fV_kind : ∀ q : Nat, 0 ≤ (fV_kind q).toInt ∧ (fV_kind q).toInt ≤ 4) (b_iV_changed : 0 ≤ iV_changed.toInt ∧ iV_changed.toInt ≤ 1) (b_fV_member : ∀ q : Nat, (-1) ≤ (fV_member q).toInt ∧ (fV_member q).toInt ≤ 15) (b_nV_list : 0 ≤ nV_list ∧ nV_list ≤ 20000) (b_iV_listed : (-1) ≤ iV_listed.toInt ∧ iV_listed.toInt ≤ 5000) (b_iV_listDone : 0 ≤ iV_listDone.toInt ∧ iV_listDone.toInt ≤ 1) (b_RuV : RuV fV_kind fV_a fV_b fV_c fV_lastHolder) (b_lst : iV_listed.toInt ≤ ((nV_list : Nat) : Int)) (sz : Nat) : Met l yX7_makeListing wsMX7_makeListing ({ frames := 4, cells := 10001, slots := 100000, locals := 99 }) (va_Pc [.ref (hV 0)] (fun U => U.heap.size = sz ∧ va_P (dC, dI) vwCl (WV hV aV kV iV_holders iV_rules fV_pairs fV_domain fV_kind fV_a fV_b fV_c fV_rulePairs fV_lastHolder fV_now iV_doneFor iV_changed gV_fore gV_back fV_together fV_member gV_list dV_list nV_list iV_listed iV_listDone) U.heap ∧ va_K (dC, dI) vwCl (tV kV) U ∧ va_D (fun _ => True) (WV hV aV kV iV_holders iV_rules fV_pairs fV_domain fV_kind fV_a fV_b fV_c fV_rulePairs fV_lastHolder fV_now iV_doneFor iV_changed gV_fore gV_back fV_together fV_member gV_list dV_list nV_list iV_listed iV_listDone))) (va_Qv (fun (u : (Nat → Int32) × (Int32) × (Int32) × (Nat → Int64) × (Nat → Int64) × (Nat → Int32) × (Nat → Int32) × (Nat → Int64) × (Nat) × (Nat) × (Int32)) => (0 ≤ (u.2.2.1).toInt ∧ (u.2.2.1).toInt ≤ 1) ∧ (∀ q : Nat, (-1) ≤ ((u.2.2.2.2.2.2.1) q).toInt ∧ ((u.2.2.2.2.2.2.1) q).toInt ≤ 15) ∧ (0 ≤ (u.2.2.2.2.2.2.2.2.2.1) ∧ (u.2.2.2.2.2.2.2.2.2.1) ≤ 20000) ∧ ((-1) ≤ (u.2.2.2.2.2.2.2.2.2.2).toInt ∧ (u.2.2.2.2.2.2.2.2.2.2).toInt ≤ 5000) ∧ ((u.2.2.2.2.2.2.2.2.2.2).toInt ≤ (((u.2.2.2.2.2.2.2.2.2.1) : Nat) : Int)) ∧ (nV_list ≤ (u.2.2.2.2.2.2.2.2.2.1))) (fun (u : (Nat → Int32) × (Int32) × (Int32) × (Nat → Int64) × (Nat → Int64) × (Nat → Int32) × (Nat → Int32) × (Nat → Int64) × (Nat) × (Nat) × (Int32)) t => va_P (dC, dI) vwCl (WV hV aV kV iV_holders iV_rules fV_pairs fV_domain fV_kind fV_a fV_b fV_c fV_rulePairs fV_lastHolder (u.1) (u.2.1) (u.2.2.1) (u.2.2.2.1) (u.2.2.2.2.1) (u.2.2.2.2.2.1) (u.2.2.2.2.2.2.1) (u.2.2.2.2.2.2.2.1) (u.2.2.2.2.2.2.2.2.1) (u.2.2.2.2.2.2.2.2.2.1) (u.2.2.2.2.2.2.2.2.2.2) iV_listDone) t.heap ∧ va_D (va_A (WV hV aV kV iV_holders iV_rules fV_pairs fV_domain fV_kind fV_a fV_b fV_c fV_rulePairs fV_lastHolder fV_now iV_doneFor iV_changed gV_fore gV_back fV_together fV_member gV_list dV_list nV_list iV_listed iV_listDone) sz) (WV hV aV kV iV_holders iV_rules fV_pairs fV_domain fV_kind fV_a fV_b fV_c fV_rulePairs fV_lastHolder (u.1) (u.2.1) (u.2.2.1) (u.2.2.2.1) (u.2.2.2.2.1) (u.2.2.2.2.2.1) (u.2.2.2.2.2.2.1) (u.2.2.2.2.2.2.2.1) (u.2.2.2.2.2.2.2.2.1) (u.2.2.2.2.2.2.2.2.2.1) (u.2.2.2.2.2.2.2.2.2.2) iV_listDone) ∧ t.heap.size + (nV_list / 4) ≤ sz + ((u.2.2.2.2.2.2.2.2.2.1) / 4) ∧ nS sz t.heap + (2 * nV_list) ≤ (2 * (u.2.2.2.2.2.2.2.2.2.1))) (va_A (WV hV aV kV iV_holders iV_rules fV_pairs fV_domain fV_kind fV_a fV_b fV_c fV_rulePairs fV_lastHolder fV_now iV_doneFor iV_changed gV_fore gV_back fV_together fV_member gV_list dV_list nV_list iV_listed iV_listDone) sz)) 10001 100000 (va_A (WV hV aV kV iV_holders iV_rules fV_pairs fV_domain fV_kind fV_a fV_b fV_c fV_rulePairs fV_lastHolder fV_now iV_doneFor iV_changed gV_fore gV_back fV_together fV_member gV_list dV_list nV_list iV_listed iV_listDone) sz) := by
  refine Met.ofW (cc := cX7_makeListing) (maxL := 3) (ret := none) (by decide) rfl ?_
  intro p e s m args below meth c s₁ B hml hv
  obtain ⟨rfl, hsz, hP, hK, hD0⟩ := hv
  have hx := B.exec
  have hb := B.bytes
  have hr := B.returns
  have hts := atoms_spec (ws := wsMX7_makeListing) B.pre
  have hown : s.vm.findClass RX7 = some m.cls := findClass_of_methodNamed B.named
  have hlocks := B.notSynchronized
  subst hsz
  have hD := hD0.self (sz := s.heap.size)
  generalize hAe : va_A (WV hV aV kV iV_holders iV_rules fV_pairs fV_domain fV_kind fV_a fV_b fV_c fV_rulePairs fV_lastHolder fV_now iV_doneFor iV_changed gV_fore gV_back fV_together fV_member gV_list dV_list nV_list iV_listed iV_listDone) s.heap.size = A at hD ⊢
  have hA : ∀ q : Nat, s.heap.size ≤ q → A q := fun q h => by rw [← hAe]; exact Or.inr h
  have hS : va_S A s.heap s.heap [] := va_S.rf
  have hl := lv_entry ([.ref (hV 0)]) (n := 3) (Nat.le_of_ble_eq_true rfl)
  rw [lg_entry_eq]
  generalize (lg_sl ([.ref (hV 0)]) ++ List.replicate (3 - (lg_sl ([.ref (hV 0)])).length) Slot.unset).toArray = ls at hl ⊢
  have hl : lv_has ls 3 [(0, .ref (hV 0))] := hl
  refine W.widen (k := (nV_list / 4 - (nV_list / 4))) (n := (2 * nV_list - (2 * nV_list))) (Nat.zero_le _) (Nat.zero_le _) ?_
  refine lv_aload_n hx hb dX7_makeListing_0 rfl (lv_at hl 0 rfl) ?_
  refine lv_aload_n hx hb dX7_makeListing_1 rfl (lv_at hl 0 rfl) ?_
  have hFc := allFree hD hS hA
  refine va_calli (va_runV (As := []) (rest := [.ref (hV 0)]) ⟨hx, hb, hml, hown, hts⟩ (m_X7_isListable l dC dI hV aV kV iV_holders iV_rules fV_pairs fV_domain fV_kind fV_a fV_b fV_c fV_rulePairs fV_lastHolder fV_now iV_doneFor iV_changed gV_fore gV_back fV_together fV_member gV_list dV_list nV_list iV_listed iV_listDone (b_iV_holders) (b_iV_rules) b_fV_kind (b_iV_changed) b_fV_member (by first | exact b_nV_list | with_reducible assumption | exact ⟨by omega, by omega⟩ | assumption) (b_iV_listed) (b_iV_listDone) (by first | with_reducible assumption | omega | assumption) (by first | with_reducible assumption | omega | (rw [iI_t (by omega) (by omega)]; omega) | (have h8 : (-1 : Int32).toInt = -1 := (by decide); have h7 : (0 : Int32).toInt = 0 := (by decide); omega)) s.heap.size) (cwV 0 hts gwsMX7_makeListing_0 rfl rfl rfl (by decide +kernel) ⟨by first | decide +kernel | (dsimp only [headSpec] <;> omega), by first | decide +kernel | (dsimp only [headSpec] <;> omega)⟩) (fz_pre (va_recv hK hP (ci := 7) (q0 := 0) rfl rfl) hP hK hD) rfl rfl hl.1 rfl (lv_room (Nat.le_of_ble_eq_true rfl)) dX7_makeListing_2 ⟨by first | decide +kernel | (dsimp only [headSpec] <;> omega), by first | decide +kernel | (dsimp only [headSpec] <;> omega)⟩) hS (fun q _ h => hFc q h) hFc (fun r1 u t9_ H locs ht hvm hw9 hB9 hz1 hk1 hS => ?_)
  have b_r1 := hw9
  try dsimp only at b_r1
  have hP : va_P (dC, dI) vwCl (WV hV aV kV iV_holders iV_rules fV_pairs fV_domain fV_kind fV_a fV_b fV_c fV_rulePairs fV_lastHolder fV_now iV_doneFor iV_changed gV_fore gV_back fV_together fV_member gV_list dV_list nV_list iV_listed iV_listDone) H := fz_P ht hB9.1
  have hD := fz_sd hP (hB9.2.weaken (fun _ q _ h => hFc q.1 h)) rfl
  refine W.known (fun hzk hnk => ?_)
  refine W.widen (k := 5000) (n := 40000) (by omega) (by omega) ?_
  refine W.cut (pc := 13) (fun H locs ls stk => ∃ (k0_j10 : Int32), ((-1) ≤ k0_j10.toInt ∧ k0_j10.toInt ≤ 0) ∧ (H.size + (nV_list / 4) ≤ s.heap.size + (nV_list / 4) ∧ nS s.heap.size H + (2 * nV_list) ≤ (2 * nV_list)) ∧  stk = [.int k0_j10, .ref (hV 0)] ∧ va_P (dC, dI) vwCl (WV hV aV kV iV_holders iV_rules fV_pairs fV_domain fV_kind fV_a fV_b fV_c fV_rulePairs fV_lastHolder fV_now iV_doneFor iV_changed gV_fore gV_back fV_together fV_member gV_list dV_list nV_list iV_listed iV_listDone) H ∧ va_D A (WV hV aV kV iV_holders iV_rules fV_pairs fV_domain fV_kind fV_a fV_b fV_c fV_rulePairs fV_lastHolder fV_now iV_doneFor iV_changed gV_fore gV_back fV_together fV_member gV_list dV_list nV_list iV_listed iV_listDone) ∧ va_S A s.heap H locs ∧ lv_has ls 3 [(0, .ref (hV 0))]) (fun join10 => ?_) ?_
  · refine W.tight (cells2 := (nV_list / 4 - (nV_list / 4))) (slots2 := (2 * nV_list - (2 * nV_list))) hzk hnk ?_
    refine lv_if_eq (tgt := 12) hx hb dX7_makeListing_5 (by decide) (fun c_5 => ?_) (fun c_5 => ?_)
    · have t_5 : r1.toInt = 0 := toI_eq c_5 rfl (by decide : (0 : Int32).toInt = 0)
      refine lv_iconst (v := (-1)) hx hb dX7_makeListing_12 (by decide) ?_
      have hl : lv_has _ _ ([(0, .ref (hV 0))]) := lv_sub hl [0] rfl
      refine W.known (fun hza hna => ?_)
      refine W.widen (k := 5000) (n := 40000) (by omega) (by omega) ?_
      exact join10 _ _ _ _ ⟨(-1), (show (-1) ≤ ((-1) : Int32).toInt ∧ ((-1) : Int32).toInt ≤ 0 from by decide), ⟨by omega, by omega⟩, rfl, hP, hD, hS, hl⟩
    · have t_5 : ¬ r1.toInt = 0 := toI_neq c_5 rfl (by decide : (0 : Int32).toInt = 0)
      refine lv_iconst (v := 0) hx hb dX7_makeListing_8 (by decide) ?_
      refine lv_goto (tgt := 13) hx hb dX7_makeListing_9 (by decide) ?_
      have hl : lv_has _ _ ([(0, .ref (hV 0))]) := lv_sub hl [0] rfl
      refine W.known (fun hza hna => ?_)
      refine W.widen (k := 5000) (n := 40000) (by omega) (by omega) ?_
      exact join10 _ _ _ _ ⟨0, (show (-1) ≤ (0 : Int32).toInt ∧ (0 : Int32).toInt ≤ 0 from by decide), ⟨by omega, by omega⟩, rfl, hP, hD, hS, hl⟩
  · intro H locs ls stk
    refine fz_e1 ?_
    intro k0_j10
    refine fz_a7 ?_
    intro b_k0_j10 hzn9_1 hst9_2 hP hD hS hl
    have hzj := hzn9_1.1
    have hnj := hzn9_1.2
    clear hzn9_1
    subst hst9_2
    refine W.tight (cells2 := (nV_list / 4 - (nV_list / 4))) (slots2 := (2 * nV_list - (2 * nV_list))) (tg1 hzj hS.1) (tg2 hnj) ?_
    refine va_put (D := (dC, dI)) (ci := 7) (v := .int k0_j10) (ty := .int) (C := RX7) (T := TX7) (N := 20) hx hb hts iwsMX7_makeListing_in7 tyX7 tyX7_ok nmX7 hown hK hP hD hS 0 rfl rfl 18 (by decide) (hts _ hm_m_X7_makeListing_0) (fun _ h9 => h9) rfl (by decide +kernel) rfl rfl (Nat.le_of_ble_eq_true rfl) dX7_makeListing_13 (fun H locs hP hD hS => ?_)
    have hP : va_P (dC, dI) vwCl (WV hV aV kV iV_holders iV_rules fV_pairs fV_domain fV_kind fV_a fV_b fV_c fV_rulePairs fV_lastHolder fV_now iV_doneFor iV_changed gV_fore gV_back fV_together fV_member gV_list dV_list nV_list k0_j10 iV_listDone) H := hP
    have hD := fz_sd hP (hD) rfl
    refine lv_aload_n hx hb dX7_makeListing_16 rfl (lv_at hl 0 rfl) ?_
    refine va_get (D := (dC, dI)) (ci := 7) (v := .int k0_j10) (C := RX7) (T := TX7) (N := 20) hx hb hts iwsMX7_makeListing_in7 hown hK hP 0 rfl rfl 18 (by decide) (hts _ hm_m_X7_makeListing_0) (fun _ h9 => h9) rfl dX7_makeListing_17 ?_
    refine lv_iconst (v := (-1)) hx hb dX7_makeListing_20 (by decide) ?_
    refine lv_icmp_ne (tgt := 25) hx hb dX7_makeListing_21 (by decide) (fun c_21 => ?_) (fun c_21 => ?_)
    · have t_21 : k0_j10.toInt ≠ (-1) := toI_ne c_21 rfl (by decide : ((-1) : Int32).toInt = (-1))
      refine lv_aload_n hx hb dX7_makeListing_25 rfl (lv_at hl 0 rfl) ?_
      refine va_get (D := (dC, dI)) (ci := 7) (v := .int iV_holders) (C := RX7) (T := TX7) (N := 20) hx hb hts iwsMX7_makeListing_in7 hown hK hP 0 rfl rfl 0 (by decide) (hts _ hm_m_X7_makeListing_1) (fun _ h9 => h9) rfl dX7_makeListing_26 ?_
      refine lv_if_ne (tgt := 37) hx hb dX7_makeListing_29 (by decide) (fun c_29 => ?_) (fun c_29 => ?_)
      · have t_29 : iV_holders.toInt ≠ 0 := toI_ne c_29 rfl (by decide : (0 : Int32).toInt = 0)
        refine lv_aload_n hx hb dX7_makeListing_37 rfl (lv_at hl 0 rfl) ?_
        refine lv_iconst (v := 1) hx hb dX7_makeListing_38 (by decide) ?_
        refine lv_aload_n hx hb dX7_makeListing_39 rfl (lv_at hl 0 rfl) ?_
        refine va_get (D := (dC, dI)) (ci := 7) (v := .int iV_rules) (C := RX7) (T := TX7) (N := 20) hx hb hts iwsMX7_makeListing_in7 hown hK hP 0 rfl rfl 1 (by decide) (hts (.fieldLink RX7 62 "OptimaWorks$ValueDesk" "rules" "I") (by decide +kernel)) (fun _ h9 => h9) rfl dX7_makeListing_40 ?_
        refine lv_ishl hx hb dX7_makeListing_43 ?_
        refine lv_topi (fun v2 hv2 => ?_)
        clear hv2
        refine lv_iconst (v := 1) hx hb dX7_makeListing_44 (by decide) ?_
        refine lv_isub hx hb dX7_makeListing_45 ?_
        refine lv_topi (fun y3 hy3 => ?_)
        obtain rfl : (iI (v2.toInt - 1)) = y3 := (hy3.trans (iI_sub2 (iI_of _) (by decide : (1 : Int32) = iI 1))).symm
        have hFc := allFree hD hS hA
        refine va_callv (va_runV (As := [.int (iI (v2.toInt - 1))]) (rest := []) ⟨hx, hb, hml, hown, hts⟩ (m_X7_narrow l dC dI hV aV kV iV_holders iV_rules fV_pairs fV_domain fV_kind fV_a fV_b fV_c fV_rulePairs fV_lastHolder fV_now iV_doneFor iV_changed gV_fore gV_back fV_together fV_member gV_list dV_list nV_list k0_j10 iV_listDone (iI (v2.toInt - 1)) (b_iV_holders) (b_iV_rules) b_fV_kind (b_iV_changed) b_fV_member (by first | exact b_nV_list | with_reducible assumption | exact ⟨by omega, by omega⟩ | assumption) (⟨b_k0_j10.1, Int.le_trans b_k0_j10.2 (by decide)⟩) (b_iV_listDone) (by first | with_reducible assumption | omega | assumption) (by first | with_reducible assumption | omega | (rw [iI_t (by omega) (by omega)]; omega) | (have h8 : (-1 : Int32).toInt = -1 := (by decide); have h7 : (0 : Int32).toInt = 0 := (by decide); omega)) H.size) (cwV 1 hts gwsMX7_makeListing_1 rfl rfl rfl (by decide +kernel) ⟨by first | decide +kernel | (dsimp only [headSpec] <;> omega), by first | decide +kernel | (dsimp only [headSpec] <;> omega)⟩) (fz_pre (va_recv hK hP (ci := 7) (q0 := 0) rfl rfl) hP hK hD) rfl rfl hl.1 rfl (lv_room (Nat.le_of_ble_eq_true rfl)) dX7_makeListing_46 ⟨by first | decide +kernel | (dsimp only [headSpec] <;> omega), by first | decide +kernel | (dsimp only [headSpec] <;> omega)⟩) hS (fun q _ h => hFc q h) hFc (fun u t9_ H locs ht hvm hw9 hB9 hz1 hk1 hS => ?_)
        revert u hw9 hB9
        refine fz_p7 ?_
        intro fV_now_4 iV_doneFor_4 iV_changed_4 gV_fore_4 gV_back_4 fV_together_4 fV_member_4 hw9 hB9
        try dsimp only at hw9 hB9
        revert hw9
        refine fz_a2 ?_
        intro b_iV_changed_4 b_fV_member_4
        have hP : va_P (dC, dI) vwCl (WV hV aV kV iV_holders iV_rules fV_pairs fV_domain fV_kind fV_a fV_b fV_c fV_rulePairs fV_lastHolder fV_now_4 iV_doneFor_4 iV_changed_4 gV_fore_4 gV_back_4 fV_together_4 fV_member_4 gV_list dV_list nV_list k0_j10 iV_listDone) H := fz_P ht hB9.1
        have hD := fz_sd hP (hB9.2.weaken (fun _ q _ h => hFc q.1 h)) rfl
        refine lv_iconst (v := 0) hx hb dX7_makeListing_49 (by decide) ?_
        refine lv_istore_n hx hb dX7_makeListing_50 rfl hl (by decide) rfl (fun ls (hl : lv_has ls _ ([(1, .int 0), (0, .ref (hV 0))])) => ?_)
        refine lv_aload_n hx hb dX7_makeListing_51 rfl (lv_at hl 1 rfl) ?_
        refine va_get (D := (dC, dI)) (ci := 7) (v := .ref (aV 12)) (C := RX7) (T := TX7) (N := 20) hx hb hts iwsMX7_makeListing_in7 hown hK hP 0 rfl rfl 16 (by decide) (hts _ hm_m_X7_makeListing_2) (fun _ h9 => h9) rfl dX7_makeListing_52 ?_
        refine lv_iconst (v := 0) hx hb dX7_makeListing_55 (by decide) ?_
        refine lv_iconst (v := (-1)) hx hb dX7_makeListing_56 (by decide) ?_
        refine va_iast (cA := kV 12) (n := 10) (f := fV_member_4) hx hb hK hP hD hS 13 12 rfl rfl (show ¬ ((0 : Int32) < 0 ∨ 10 ≤ (0 : Int32).toNatClampNeg) by decide) dX7_makeListing_57 (fun H locs hP hD hS => ?_)
        obtain ⟨u5, hu5⟩ : ∃ f9, f9 = upd fV_member_4 (0 : Int32).toNatClampNeg ((-1) : Int32) := ⟨_, rfl⟩
        have hP : va_P (dC, dI) vwCl (WV hV aV kV iV_holders iV_rules fV_pairs fV_domain fV_kind fV_a fV_b fV_c fV_rulePairs fV_lastHolder fV_now_4 iV_doneFor_4 iV_changed_4 gV_fore_4 gV_back_4 fV_together_4 u5 gV_list dV_list nV_list k0_j10 iV_listDone) H := by rw [hu5]; exact hP
        have hD : va_D A (WV hV aV kV iV_holders iV_rules fV_pairs fV_domain fV_kind fV_a fV_b fV_c fV_rulePairs fV_lastHolder fV_now_4 iV_doneFor_4 iV_changed_4 gV_fore_4 gV_back_4 fV_together_4 u5 gV_list dV_list nV_list k0_j10 iV_listDone) := by rw [hu5]; exact hD
        have b_u5 : ∀ q : Nat, -1 ≤ (u5 q).toInt ∧ (u5 q).toInt ≤ 15 := by rw [hu5]; exact upd_r b_fV_member_4 (by first | assumption | decide)
        have b1_u5 : u5 = upd fV_member_4 (0 : Int32).toNatClampNeg (-1) := hu5
        clear hu5
        refine lv_iconst (v := 0) hx hb dX7_makeListing_58 (by decide) ?_
        refine lv_istore_n hx hb dX7_makeListing_59 rfl hl (by decide) rfl (fun ls (hl : lv_has ls _ ([(2, .int 0), (1, .int 0), (0, .ref (hV 0))])) => ?_)
        have hl : lv_has _ _ ([(2, .int 0), (1, .int 0), (0, .ref (hV 0))]) := lv_sub hl [0, 1, 2] rfl
        refine (fun (loop : ∀ (n9 : Nat) (fV_member_x60 : Nat → Int32) (gV_list_x60 : Nat → Int64) (dV_list_x60 : Nat) (nV_list_x60 : Nat) (iV_listed_x60 : Int32) (l2_x60 : Int32) (l1_x60 : Int32) (H : Heap) (locs : List Loc) (ls : Array Slot), (∀ q : Nat, (-1) ≤ (fV_member_x60 q).toInt ∧ (fV_member_x60 q).toInt ≤ 15) → (0 ≤ nV_list_x60 ∧ nV_list_x60 ≤ 20000) → ((-1) ≤ iV_listed_x60.toInt ∧ iV_listed_x60.toInt ≤ 5000) → (0 ≤ l2_x60.toInt ∧ l2_x60.toInt ≤ 1000000) → ((-1) ≤ l1_x60.toInt ∧ l1_x60.toInt ≤ 9) → (iV_listed_x60.toInt ≤ ((nV_list_x60 : Nat) : Int)) → (MemC fV_member_x60 l1_x60.toInt) → (l1_x60.toInt < iV_holders.toInt) → (0 ≤ iV_listed_x60.toInt) → (nV_list ≤ nV_list_x60) → (1000000 - l2_x60.toInt < ((n9 : Nat) : Int)) → va_P (dC, dI) vwCl (WV hV aV kV iV_holders iV_rules fV_pairs fV_domain fV_kind fV_a fV_b fV_c fV_rulePairs fV_lastHolder fV_now_4 iV_doneFor_4 iV_changed_4 gV_fore_4 gV_back_4 fV_together_4 fV_member_x60 gV_list_x60 dV_list_x60 nV_list_x60 iV_listed_x60 iV_listDone) H → va_D A (WV hV aV kV iV_holders iV_rules fV_pairs fV_domain fV_kind fV_a fV_b fV_c fV_rulePairs fV_lastHolder fV_now_4 iV_doneFor_4 iV_changed_4 gV_fore_4 gV_back_4 fV_together_4 fV_member_x60 gV_list_x60 dV_list_x60 nV_list_x60 iV_listed_x60 iV_listDone) → va_S A s.heap H locs → lv_has ls 3 [(2, .int l2_x60), (1, .int l1_x60), (0, .ref (hV 0))] → W p l e _ s m _ below meth c H locs (nV_list_x60 / 4 - (nV_list / 4)) (2 * nV_list_x60 - (2 * nV_list)) _ (F0 m 60 ls [])) => loop (1000001) u5 gV_list dV_list nV_list k0_j10 0 0 _ _ _ b_u5 (by first | exact b_nV_list | with_reducible assumption | exact ⟨by omega, by omega⟩ | assumption) (⟨b_k0_j10.1, Int.le_trans b_k0_j10.2 (by decide)⟩) (show 0 ≤ (0 : Int32).toInt ∧ (0 : Int32).toInt ≤ 1000000 from by decide) (show (-1) ≤ (0 : Int32).toInt ∧ (0 : Int32).toInt ≤ 9 from by decide) (by first | with_reducible assumption | omega | (rw [iI_t (by omega) (by omega)]; omega) | (have h8 : (-1 : Int32).toInt = -1 := (by decide); have h7 : (0 : Int32).toInt = 0 := (by decide); omega)) (show MemC u5 (0 : Int32).toInt from fun q hq => absurd hq (by have h7 : (0 : Int32).toInt = 0 := (by decide); omega)) (show (0 : Int32).toInt < iV_holders.toInt from by have h7 : (0 : Int32).toInt = 0 := (by decide); omega) (show 0 ≤ k0_j10.toInt from by omega) (show nV_list ≤ nV_list from by omega) ((by have e9 : (0 : Int32).toInt = 0 := (by decide : (0 : Int32).toInt = 0); omega)) hP hD hS hl) ?_
        intro n9
        induction n9 with
        | zero => intro fV_member_x60 gV_list_x60 dV_list_x60 nV_list_x60 iV_listed_x60 l2_x60 l1_x60 H locs ls b_fV_member_x60 b_nV_list_x60 b_iV_listed_x60 b_l2_x60 b_l1_x60 b_lst_x60 hMc hah hli hgm0_x60 hf9; exact False.elim (by omega)
        | succ n9 ihx60 =>
          intro fV_member_x60 gV_list_x60 dV_list_x60 nV_list_x60 iV_listed_x60 l2_x60 l1_x60 H locs ls b_fV_member_x60 b_nV_list_x60 b_iV_listed_x60 b_l2_x60 b_l1_x60 b_lst_x60 hMc hah hli hgm0_x60 hfx60 hP hD hS hl
          refine lv_iload_n hx hb dX7_makeListing_60 rfl (lv_at hl 0 rfl) ?_
          refine lv_ldc (v := 1000000) hx hb hown (hts (.constant RX7 181 1000000) (by decide +kernel)) dX7_makeListing_61 ?_
          refine W.known (fun hzk hnk => ?_)
          refine W.widen (k := 5000) (n := 40000) (by omega) (by omega) ?_
          refine W.cut (pc := 148) (fun H locs ls stk => (H.size + (nV_list / 4) ≤ s.heap.size + (nV_list_x60 / 4) ∧ nS s.heap.size H + (2 * nV_list) ≤ (2 * nV_list_x60)) ∧  stk = [] ∧ va_P (dC, dI) vwCl (WV hV aV kV iV_holders iV_rules fV_pairs fV_domain fV_kind fV_a fV_b fV_c fV_rulePairs fV_lastHolder fV_now_4 iV_doneFor_4 iV_changed_4 gV_fore_4 gV_back_4 fV_together_4 fV_member_x60 gV_list_x60 dV_list_x60 nV_list_x60 iV_listed_x60 iV_listDone) H ∧ va_D A (WV hV aV kV iV_holders iV_rules fV_pairs fV_domain fV_kind fV_a fV_b fV_c fV_rulePairs fV_lastHolder fV_now_4 iV_doneFor_4 iV_changed_4 gV_fore_4 gV_back_4 fV_together_4 fV_member_x60 gV_list_x60 dV_list_x60 nV_list_x60 iV_listed_x60 iV_listDone) ∧ va_S A s.heap H locs ∧ lv_has ls 3 [(2, .int l2_x60), (1, .int l1_x60), (0, .ref (hV 0))]) (fun join17 => ?_) ?_
          · refine W.tight (cells2 := (nV_list_x60 / 4 - (nV_list / 4))) (slots2 := (2 * nV_list_x60 - (2 * nV_list))) hzk hnk ?_
            refine lv_icmp_ge (tgt := 148) hx hb dX7_makeListing_63 (by decide) (fun c_63 => ?_) (fun c_63 => ?_)
            · have t_63 : l2_x60.toInt ≥ 1000000 := toI_ge c_63 rfl (by decide : (1000000 : Int32).toInt = 1000000)
              have hl : lv_has _ _ ([(2, .int l2_x60), (1, .int l1_x60), (0, .ref (hV 0))]) := lv_sub hl [0, 1, 2] rfl
              refine W.known (fun hza hna => ?_)
              refine W.widen (k := 5000) (n := 40000) (by omega) (by omega) ?_
              exact join17 _ _ _ _ ⟨⟨by omega, by omega⟩, rfl, hP, hD, hS, hl⟩
            · have t_63 : ¬ l2_x60.toInt ≥ 1000000 := toI_nge c_63 rfl (by decide : (1000000 : Int32).toInt = 1000000)
              refine lv_iload_n hx hb dX7_makeListing_66 rfl (lv_at hl 1 rfl) ?_
              refine lv_if_lt (tgt := 148) hx hb dX7_makeListing_67 (by decide) (fun c_67 => ?_) (fun c_67 => ?_)
              · have t_67 : l1_x60.toInt < 0 := toI_lt c_67 rfl (by decide : (0 : Int32).toInt = 0)
                have hl : lv_has _ _ ([(2, .int l2_x60), (1, .int l1_x60), (0, .ref (hV 0))]) := lv_sub hl [0, 1, 2] rfl
                refine W.known (fun hza hna => ?_)
                refine W.widen (k := 5000) (n := 40000) (by omega) (by omega) ?_
                exact join17 _ _ _ _ ⟨⟨by omega, by omega⟩, rfl, hP, hD, hS, hl⟩
              · have t_67 : ¬ l1_x60.toInt < 0 := toI_nlt c_67 rfl (by decide : (0 : Int32).toInt = 0)
                refine lv_aload_n hx hb dX7_makeListing_70 rfl (lv_at hl 2 rfl) ?_
                refine va_get (D := (dC, dI)) (ci := 7) (v := .int iV_listed_x60) (C := RX7) (T := TX7) (N := 20) hx hb hts iwsMX7_makeListing_in7 hown hK hP 0 rfl rfl 18 (by decide) (hts _ hm_m_X7_makeListing_0) (fun _ h9 => h9) rfl dX7_makeListing_71 ?_
                refine lv_sipush (v := 5000) hx hb dX7_makeListing_74 (by decide) ?_
                refine lv_icmp_ge (tgt := 148) hx hb dX7_makeListing_77 (by decide) (fun c_77 => ?_) (fun c_77 => ?_)
                · have t_77 : iV_listed_x60.toInt ≥ 5000 := toI_ge c_77 rfl (by decide : (5000 : Int32).toInt = 5000)
                  have hl : lv_has _ _ ([(2, .int l2_x60), (1, .int l1_x60), (0, .ref (hV 0))]) := lv_sub hl [0, 1, 2] rfl
                  refine W.known (fun hza hna => ?_)
                  refine W.widen (k := 5000) (n := 40000) (by omega) (by omega) ?_
                  exact join17 _ _ _ _ ⟨⟨by omega, by omega⟩, rfl, hP, hD, hS, hl⟩
                · have t_77 : ¬ iV_listed_x60.toInt ≥ 5000 := toI_nge c_77 rfl (by decide : (5000 : Int32).toInt = 5000)
                  refine lv_aload_n hx hb dX7_makeListing_80 rfl (lv_at hl 2 rfl) ?_
                  refine va_get (D := (dC, dI)) (ci := 7) (v := .ref (aV 12)) (C := RX7) (T := TX7) (N := 20) hx hb hts iwsMX7_makeListing_in7 hown hK hP 0 rfl rfl 16 (by decide) (hts _ hm_m_X7_makeListing_2) (fun _ h9 => h9) rfl dX7_makeListing_81 ?_
                  refine lv_iload_n hx hb dX7_makeListing_84 rfl (lv_at hl 1 rfl) ?_
                  refine lv_aload_n hx hb dX7_makeListing_85 rfl (lv_at hl 2 rfl) ?_
                  refine lv_iload_n hx hb dX7_makeListing_86 rfl (lv_at hl 1 rfl) ?_
                  have hFc := allFree hD hS hA
                  refine va_calli (va_runV (As := [.int l1_x60]) (rest := [.int l1_x60, .ref (aV 12)]) ⟨hx, hb, hml, hown, hts⟩ (m_X7_nextValue l dC dI hV aV kV iV_holders iV_rules fV_pairs fV_domain fV_kind fV_a fV_b fV_c fV_rulePairs fV_lastHolder fV_now_4 iV_doneFor_4 iV_changed_4 gV_fore_4 gV_back_4 fV_together_4 fV_member_x60 gV_list_x60 dV_list_x60 nV_list_x60 iV_listed_x60 iV_listDone l1_x60 (b_iV_holders) (b_iV_rules) b_fV_kind (b_iV_changed_4) b_fV_member_x60 (by first | exact b_nV_list_x60 | with_reducible assumption | exact ⟨by omega, by omega⟩ | assumption) (b_iV_listed_x60) (b_iV_listDone) (by first | with_reducible assumption | omega | assumption) (by first | with_reducible assumption | omega | (rw [iI_t (by omega) (by omega)]; omega) | (have h8 : (-1 : Int32).toInt = -1 := (by decide); have h7 : (0 : Int32).toInt = 0 := (by decide); omega)) (by first | exact b_l1_x60 | with_reducible assumption | exact ⟨by omega, by omega⟩ | assumption) H.size) (cwV 1 hts gwsMX7_makeListing_2 rfl rfl rfl (by decide +kernel) ⟨by first | decide +kernel | (dsimp only [headSpec] <;> omega), by first | decide +kernel | (dsimp only [headSpec] <;> omega)⟩) (fz_pre (va_recv hK hP (ci := 7) (q0 := 0) rfl rfl) hP hK hD) rfl rfl hl.1 rfl (lv_room (Nat.le_of_ble_eq_true rfl)) dX7_makeListing_87 ⟨by first | decide +kernel | (dsimp only [headSpec] <;> omega), by first | decide +kernel | (dsimp only [headSpec] <;> omega)⟩) hS (fun q _ h => hFc q h) hFc (fun r61 u t9_ H locs ht hvm hw9 hB9 hz1 hk1 hS => ?_)
                  have b_r61 := hw9
                  try dsimp only at b_r61
                  have hP : va_P (dC, dI) vwCl (WV hV aV kV iV_holders iV_rules fV_pairs fV_domain fV_kind fV_a fV_b fV_c fV_rulePairs fV_lastHolder fV_now_4 iV_doneFor_4 iV_changed_4 gV_fore_4 gV_back_4 fV_together_4 fV_member_x60 gV_list_x60 dV_list_x60 nV_list_x60 iV_listed_x60 iV_listDone) H := fz_P ht hB9.1
                  have hD := fz_sd hP (hB9.2.weaken (fun _ q _ h => hFc q.1 h)) rfl
                  refine va_iast (cA := kV 12) (n := 10) (f := fV_member_x60) hx hb hK hP hD hS 13 12 rfl rfl (vp_in_iff.mpr ⟨(by omega), (Int.lt_of_le_of_lt (b_l1_x60.2) (by decide))⟩) dX7_makeListing_90 (fun H locs hP hD hS => ?_)
                  obtain ⟨u62, hu62⟩ : ∃ f9, f9 = upd fV_member_x60 (l1_x60).toNatClampNeg r61 := ⟨_, rfl⟩
                  have hP : va_P (dC, dI) vwCl (WV hV aV kV iV_holders iV_rules fV_pairs fV_domain fV_kind fV_a fV_b fV_c fV_rulePairs fV_lastHolder fV_now_4 iV_doneFor_4 iV_changed_4 gV_fore_4 gV_back_4 fV_together_4 u62 gV_list_x60 dV_list_x60 nV_list_x60 iV_listed_x60 iV_listDone) H := by rw [hu62]; exact hP
                  have hD : va_D A (WV hV aV kV iV_holders iV_rules fV_pairs fV_domain fV_kind fV_a fV_b fV_c fV_rulePairs fV_lastHolder fV_now_4 iV_doneFor_4 iV_changed_4 gV_fore_4 gV_back_4 fV_together_4 u62 gV_list_x60 dV_list_x60 nV_list_x60 iV_listed_x60 iV_listDone) := by rw [hu62]; exact hD
                  have b_u62 : ∀ q : Nat, -1 ≤ (u62 q).toInt ∧ (u62 q).toInt ≤ 15 := by rw [hu62]; exact upd_r b_fV_member_x60 (by first | assumption | decide)
                  have b1_u62 : u62 = upd fV_member_x60 (l1_x60).toNatClampNeg r61 := hu62
                  clear hu62
                  refine lv_aload_n hx hb dX7_makeListing_91 rfl (lv_at hl 2 rfl) ?_
                  refine va_get (D := (dC, dI)) (ci := 7) (v := .ref (aV 12)) (C := RX7) (T := TX7) (N := 20) hx hb hts iwsMX7_makeListing_in7 hown hK hP 0 rfl rfl 16 (by decide) (hts _ hm_m_X7_makeListing_2) (fun _ h9 => h9) rfl dX7_makeListing_92 ?_
                  refine lv_iload_n hx hb dX7_makeListing_95 rfl (lv_at hl 1 rfl) ?_
                  refine va_iald (cA := kV 12) (n := 10) (f := u62) hx hb hK hP 13 12 rfl rfl (vp_in_iff.mpr ⟨(by omega), (Int.lt_of_le_of_lt (b_l1_x60.2) (by decide))⟩) dX7_makeListing_96 ?_
                  refine lv_topi (fun v63 hv63 => ?_)
                  have b_v63 : -1 ≤ v63.toInt ∧ v63.toInt ≤ 15 := by rw [hv63]; exact b_u62 _
                  have b1_v63 : v63.toInt = r61.toInt := by rw [hv63]; exact (by rw [b1_u62, pk_us])
                  clear hv63
                  refine lv_iconst (v := (-1)) hx hb dX7_makeListing_97 (by decide) ?_
                  refine W.known (fun hzk hnk => ?_)
                  refine W.widen (k := 5000) (n := 40000) (by omega) (by omega) ?_
                  refine W.cut (pc := 142) (fun H locs ls stk => ∃ (fV_member_j18 : Nat → Int32) (gV_list_j18 : Nat → Int64) (dV_list_j18 : Nat) (nV_list_j18 : Nat) (iV_listed_j18 : Int32) (l1_j18 : Int32), (∀ q : Nat, (-1) ≤ (fV_member_j18 q).toInt ∧ (fV_member_j18 q).toInt ≤ 15) ∧ (0 ≤ nV_list_j18 ∧ nV_list_j18 ≤ 20000) ∧ ((-1) ≤ iV_listed_j18.toInt ∧ iV_listed_j18.toInt ≤ 5000) ∧ ((-1) ≤ l1_j18.toInt ∧ l1_j18.toInt ≤ 9) ∧ (iV_listed_j18.toInt ≤ ((nV_list_j18 : Nat) : Int)) ∧ (MemC fV_member_j18 l1_j18.toInt) ∧ (l1_j18.toInt < iV_holders.toInt) ∧ (0 ≤ iV_listed_j18.toInt) ∧ (nV_list ≤ nV_list_j18) ∧ (H.size + (nV_list / 4) ≤ s.heap.size + (nV_list_j18 / 4) ∧ nS s.heap.size H + (2 * nV_list) ≤ (2 * nV_list_j18)) ∧  stk = [] ∧ va_P (dC, dI) vwCl (WV hV aV kV iV_holders iV_rules fV_pairs fV_domain fV_kind fV_a fV_b fV_c fV_rulePairs fV_lastHolder fV_now_4 iV_doneFor_4 iV_changed_4 gV_fore_4 gV_back_4 fV_together_4 fV_member_j18 gV_list_j18 dV_list_j18 nV_list_j18 iV_listed_j18 iV_listDone) H ∧ va_D A (WV hV aV kV iV_holders iV_rules fV_pairs fV_domain fV_kind fV_a fV_b fV_c fV_rulePairs fV_lastHolder fV_now_4 iV_doneFor_4 iV_changed_4 gV_fore_4 gV_back_4 fV_together_4 fV_member_j18 gV_list_j18 dV_list_j18 nV_list_j18 iV_listed_j18 iV_listDone) ∧ va_S A s.heap H locs ∧ lv_has ls 3 [(2, .int l2_x60), (1, .int l1_j18), (0, .ref (hV 0))]) (fun join18 => ?_) ?_
                  · refine W.tight (cells2 := (nV_list_x60 / 4 - (nV_list / 4))) (slots2 := (2 * nV_list_x60 - (2 * nV_list))) hzk hnk ?_
                    refine lv_icmp_ne (tgt := 107) hx hb dX7_makeListing_98 (by decide) (fun c_98 => ?_) (fun c_98 => ?_)
                    · have t_98 : v63.toInt ≠ (-1) := toI_ne c_98 rfl (by decide : ((-1) : Int32).toInt = (-1))
                      have hMs := MemC.set hMc b1_u62 (by omega) (by omega) rfl
                      refine lv_aload_n hx hb dX7_makeListing_107 rfl (lv_at hl 2 rfl) ?_
                      refine lv_iload_n hx hb dX7_makeListing_108 rfl (lv_at hl 1 rfl) ?_
                      have hFc := allFree hD hS hA
                      refine va_calli (va_runV (As := [.int l1_x60]) (rest := []) ⟨hx, hb, hml, hown, hts⟩ (m_X7_keepsAt l dC dI hV aV kV iV_holders iV_rules fV_pairs fV_domain fV_kind fV_a fV_b fV_c fV_rulePairs fV_lastHolder fV_now_4 iV_doneFor_4 iV_changed_4 gV_fore_4 gV_back_4 fV_together_4 u62 gV_list_x60 dV_list_x60 nV_list_x60 iV_listed_x60 iV_listDone l1_x60 (b_iV_holders) (b_iV_rules) b_fV_kind (b_iV_changed_4) b_u62 (by first | exact b_nV_list_x60 | with_reducible assumption | exact ⟨by omega, by omega⟩ | assumption) (b_iV_listed_x60) (b_iV_listDone) (by first | with_reducible assumption | omega | assumption) (by first | with_reducible assumption | omega | (rw [iI_t (by omega) (by omega)]; omega) | (have h8 : (-1 : Int32).toInt = -1 := (by decide); have h7 : (0 : Int32).toInt = 0 := (by decide); omega)) (by first | exact b_l1_x60 | with_reducible assumption | exact ⟨by omega, by omega⟩ | assumption) (by first | with_reducible assumption | omega | (rw [iI_t (by omega) (by omega)]; omega) | decide | assumption) H.size) (cwV 1 hts gwsMX7_makeListing_3 rfl rfl rfl (by decide +kernel) ⟨by first | decide +kernel | (dsimp only [headSpec] <;> omega), by first | decide +kernel | (dsimp only [headSpec] <;> omega)⟩) (fz_pre (va_recv hK hP (ci := 7) (q0 := 0) rfl rfl) hP hK hD) rfl rfl hl.1 rfl (lv_room (Nat.le_of_ble_eq_true rfl)) dX7_makeListing_109 ⟨by first | decide +kernel | (dsimp only [headSpec] <;> omega), by first | decide +kernel | (dsimp only [headSpec] <;> omega)⟩) hS (fun q _ h => hFc q h) hFc (fun r68 u t9_ H locs ht hvm hw9 hB9 hz1 hk1 hS => ?_)
                      have b_r68 := hw9
                      try dsimp only at b_r68
                      have hP : va_P (dC, dI) vwCl (WV hV aV kV iV_holders iV_rules fV_pairs fV_domain fV_kind fV_a fV_b fV_c fV_rulePairs fV_lastHolder fV_now_4 iV_doneFor_4 iV_changed_4 gV_fore_4 gV_back_4 fV_together_4 u62 gV_list_x60 dV_list_x60 nV_list_x60 iV_listed_x60 iV_listDone) H := fz_P ht hB9.1
                      have hD := fz_sd hP (hB9.2.weaken (fun _ q _ h => hFc q.1 h)) rfl
                      refine lv_if_eq (tgt := 142) hx hb dX7_makeListing_112 (by decide) (fun c_112 => ?_) (fun c_112 => ?_)
                      · have t_112 : r68.toInt = 0 := toI_eq c_112 rfl (by decide : (0 : Int32).toInt = 0)
                        have hl : lv_has _ _ ([(2, .int l2_x60), (1, .int l1_x60), (0, .ref (hV 0))]) := lv_sub hl [0, 1, 2] rfl
                        refine W.known (fun hza hna => ?_)
                        refine W.widen (k := 5000) (n := 40000) (by omega) (by omega) ?_
                        exact join18 _ _ _ _ ⟨u62, gV_list_x60, dV_list_x60, nV_list_x60, iV_listed_x60, l1_x60, b_u62, (by first | exact b_nV_list_x60 | with_reducible assumption | exact ⟨by omega, by omega⟩ | assumption), (b_iV_listed_x60), (b_l1_x60), (by first | with_reducible assumption | omega | (rw [iI_t (by omega) (by omega)]; omega) | (have h8 : (-1 : Int32).toInt = -1 := (by decide); have h7 : (0 : Int32).toInt = 0 := (by decide); omega)), (show MemC u62 l1_x60.toInt from by first | exact MemC.any hMc (by assumption) (by omega) (by rw [iI_t (by omega) (by omega)]; omega) (by rw [iI_t (by omega) (by omega)]; omega) | exact MemC.any hMs (by assumption) (by rw [iI_t (by omega) (by omega)]; omega) (by omega) (by rw [iI_t (by omega) (by omega)]; omega) | exact MemC.less hMs (by omega)), (show l1_x60.toInt < iV_holders.toInt from by first | assumption | omega | (rw [iI_t (by omega) (by omega)]; omega)), (show 0 ≤ iV_listed_x60.toInt from by omega), (show nV_list ≤ nV_list_x60 from by omega), ⟨by omega, by omega⟩, rfl, hP, hD, hS, hl⟩
                      · have t_112 : ¬ r68.toInt = 0 := toI_neq c_112 rfl (by decide : (0 : Int32).toInt = 0)
                        refine lv_iload_n hx hb dX7_makeListing_115 rfl (lv_at hl 1 rfl) ?_
                        refine lv_iconst (v := 1) hx hb dX7_makeListing_116 (by decide) ?_
                        refine lv_iadd hx hb dX7_makeListing_117 ?_
                        refine lv_topi (fun y69 hy69 => ?_)
                        obtain rfl : (iI (l1_x60.toInt + 1)) = y69 := (hy69.trans (iI_add2 (iI_of _) (by decide : (1 : Int32) = iI 1))).symm
                        refine lv_aload_n hx hb dX7_makeListing_118 rfl (lv_at hl 2 rfl) ?_
                        refine va_get (D := (dC, dI)) (ci := 7) (v := .int iV_holders) (C := RX7) (T := TX7) (N := 20) hx hb hts iwsMX7_makeListing_in7 hown hK hP 0 rfl rfl 0 (by decide) (hts _ hm_m_X7_makeListing_1) (fun _ h9 => h9) rfl dX7_makeListing_119 ?_
                        refine lv_icmp_ge (tgt := 138) hx hb dX7_makeListing_122 (by decide) (fun c_122 => ?_) (fun c_122 => ?_)
                        · have t_122 : (l1_x60.toInt + 1) ≥ iV_holders.toInt := toI_ge c_122 (iI_t (Int.le_trans (by decide) (Int.add_le_add (b_l1_x60.1) (Int.le_refl _))) (Int.le_trans (Int.add_le_add (b_l1_x60.2) (Int.le_refl _)) (by decide))) rfl
                          refine lv_aload_n hx hb dX7_makeListing_138 rfl (lv_at hl 2 rfl) ?_
                          refine W.known (fun hz0 hn0 => ?_)
                          have hS0 := hS.1
                          have hFc := allFree hD hS hA
                          refine va_callv (va_runV (As := []) (rest := []) ⟨hx, hb, hml, hown, hts⟩ (Met.sV (m_X7_keepListed l dC dI hV aV kV iV_holders iV_rules fV_pairs fV_domain fV_kind fV_a fV_b fV_c fV_rulePairs fV_lastHolder fV_now_4 iV_doneFor_4 iV_changed_4 gV_fore_4 gV_back_4 fV_together_4 u62 gV_list_x60 dV_list_x60 nV_list_x60 iV_listed_x60 iV_listDone (b_iV_holders) (b_iV_rules) b_fV_kind (b_iV_changed_4) b_u62 (by first | exact b_nV_list_x60 | with_reducible assumption | exact ⟨by omega, by omega⟩ | assumption) (b_iV_listed_x60) (b_iV_listDone) (by first | with_reducible assumption | omega | assumption) (by first | with_reducible assumption | omega | (rw [iI_t (by omega) (by omega)]; omega) | (have h8 : (-1 : Int32).toInt = -1 := (by decide); have h7 : (0 : Int32).toInt = 0 := (by decide); omega)) (by first | with_reducible assumption | omega | (rw [iI_t (by omega) (by omega)]; omega) | decide | assumption) (by first | with_reducible assumption | omega | (rw [iI_t (by omega) (by omega)]; omega) | decide | assumption) H.size) H) (cwV 0 hts gwsMX7_makeListing_4 rfl rfl rfl (by decide +kernel) ⟨by first | decide +kernel | (dsimp only [headSpec] <;> omega), by first | decide +kernel | (dsimp only [headSpec] <;> omega)⟩) ⟨fun a U g mk q => by obtain ⟨q0, qh, q1, qP, qK, qD⟩ := q; exact ⟨q0, qh, q1, qP, va_K.moved (u := U) (U := U.calling g mk a) (Vm.Alike.refl U.vm) qK, qD⟩, va_recv hK hP (ci := 7) (q0 := 0) rfl rfl, fun U hU9 hW => ⟨rfl, hU9, by rw [hU9], by rw [hU9]; exact hP, va_K.moved hW.alike hK, hD.weaken (fun _ _ _ _ => trivial)⟩⟩ rfl rfl hl.1 rfl (lv_room (Nat.le_of_ble_eq_true rfl)) dX7_makeListing_139 ⟨by first | decide +kernel | (dsimp only [headSpec] <;> omega), by first | decide +kernel | (dsimp only [headSpec] <;> omega)⟩) hS (fun q _ h => hFc q h) hFc (fun u t9_ H locs ht hvm hw9 hB9 hz1 hk1 hS => ?_)
                          revert u hw9 hB9
                          refine fz_p4 ?_
                          intro gV_list_70 dV_list_70 nV_list_70 iV_listed_70 hw9 hB9
                          try dsimp only at hw9 hB9
                          revert hw9
                          refine fz_a5 ?_
                          intro b_nV_list_70 b_iV_listed_70 b_lst_70 f70_0 f70_1
                          have hg1 := hB9.1.2.2.1
                          rw [ht] at hg1
                          have hg2 := hB9.1.2.2.2
                          rw [ht] at hg2
                          have hSz := hB9.2
                          rw [ht] at hSz
                          have hP : va_P (dC, dI) vwCl (WV hV aV kV iV_holders iV_rules fV_pairs fV_domain fV_kind fV_a fV_b fV_c fV_rulePairs fV_lastHolder fV_now_4 iV_doneFor_4 iV_changed_4 gV_fore_4 gV_back_4 fV_together_4 u62 gV_list_70 dV_list_70 nV_list_70 iV_listed_70 iV_listDone) H := fz_P ht hB9.1.1
                          have hD := fz_sd hP (hB9.1.2.1.weaken (fun _ q _ h => hFc q.1 h)) rfl
                          have hz9 : H.size ≤ s.heap.size + (nV_list_70 / 4 - (nV_list / 4)) := by (try dsimp only at hg1); omega
                          have hn9 : nS s.heap.size H ≤ (2 * nV_list_70 - (2 * nV_list)) := by rw [hSz.n hS0]; (try dsimp only at hg2); omega
                          refine W.tight (cells2 := (nV_list_70 / 4 - (nV_list / 4))) (slots2 := (2 * nV_list_70 - (2 * nV_list))) hz9 hn9 ?_
                          clear hz9 hn9 hz0 hn0 hS0 hSz hg1 hg2
                          have hl : lv_has _ _ ([(2, .int l2_x60), (1, .int l1_x60), (0, .ref (hV 0))]) := lv_sub hl [0, 1, 2] rfl
                          refine W.known (fun hza hna => ?_)
                          refine W.widen (k := 5000) (n := 40000) (by omega) (by omega) ?_
                          exact join18 _ _ _ _ ⟨u62, gV_list_70, dV_list_70, nV_list_70, iV_listed_70, l1_x60, b_u62, (by first | exact b_nV_list_70 | with_reducible assumption | exact ⟨by omega, by omega⟩ | assumption), (b_iV_listed_70), (b_l1_x60), (by first | with_reducible assumption | omega | (rw [iI_t (by omega) (by omega)]; omega) | (have h8 : (-1 : Int32).toInt = -1 := (by decide); have h7 : (0 : Int32).toInt = 0 := (by decide); omega)), (show MemC u62 l1_x60.toInt from by first | exact MemC.any hMc (by assumption) (by omega) (by rw [iI_t (by omega) (by omega)]; omega) (by rw [iI_t (by omega) (by omega)]; omega) | exact MemC.any hMs (by assumption) (by rw [iI_t (by omega) (by omega)]; omega) (by omega) (by rw [iI_t (by omega) (by omega)]; omega) | exact MemC.less hMs (by omega)), (show l1_x60.toInt < iV_holders.toInt from by first | assumption | omega | (rw [iI_t (by omega) (by omega)]; omega)), (show 0 ≤ iV_listed_70.toInt from by omega), (show nV_list ≤ nV_list_70 from by omega), ⟨by omega, by omega⟩, rfl, hP, hD, hS, hl⟩
                        · have t_122 : ¬ (l1_x60.toInt + 1) ≥ iV_holders.toInt := toI_nge c_122 (iI_t (Int.le_trans (by decide) (Int.add_le_add (b_l1_x60.1) (Int.le_refl _))) (Int.le_trans (Int.add_le_add (b_l1_x60.2) (Int.le_refl _)) (by decide))) rfl
                          refine lv_iinc (v := (iI (l1_x60.toInt + 1))) hx hb dX7_makeListing_125 hl (k := 1) rfl (iI_add2 (iI_of _) (by decide : (1 : Int32) = iI 1)) (by decide) rfl (fun ls (hl : lv_has ls _ ([(1, .int (iI (l1_x60.toInt + 1))), (2, .int l2_x60), (0, .ref (hV 0))])) => ?_)
                          refine lv_aload_n hx hb dX7_makeListing_128 rfl (lv_at hl 2 rfl) ?_
                          refine va_get (D := (dC, dI)) (ci := 7) (v := .ref (aV 12)) (C := RX7) (T := TX7) (N := 20) hx hb hts iwsMX7_makeListing_in7 hown hK hP 0 rfl rfl 16 (by decide) (hts _ hm_m_X7_makeListing_2) (fun _ h9 => h9) rfl dX7_makeListing_129 ?_
                          refine lv_iload_n hx hb dX7_makeListing_132 rfl (lv_at hl 0 rfl) ?_
                          refine lv_iconst (v := (-1)) hx hb dX7_makeListing_133 (by decide) ?_
                          refine va_iast (cA := kV 12) (n := 10) (f := u62) hx hb hK hP hD hS 13 12 rfl rfl (vp_iI (Int.le_trans (by decide) (Int.add_le_add (b_l1_x60.1) (Int.le_refl _))) (by omega) (by decide)) dX7_makeListing_134 (fun H locs hP hD hS => ?_)
                          obtain ⟨u71, hu71⟩ : ∃ f9, f9 = upd u62 ((iI (l1_x60.toInt + 1))).toNatClampNeg ((-1) : Int32) := ⟨_, rfl⟩
                          have hP : va_P (dC, dI) vwCl (WV hV aV kV iV_holders iV_rules fV_pairs fV_domain fV_kind fV_a fV_b fV_c fV_rulePairs fV_lastHolder fV_now_4 iV_doneFor_4 iV_changed_4 gV_fore_4 gV_back_4 fV_together_4 u71 gV_list_x60 dV_list_x60 nV_list_x60 iV_listed_x60 iV_listDone) H := by rw [hu71]; exact hP
                          have hD : va_D A (WV hV aV kV iV_holders iV_rules fV_pairs fV_domain fV_kind fV_a fV_b fV_c fV_rulePairs fV_lastHolder fV_now_4 iV_doneFor_4 iV_changed_4 gV_fore_4 gV_back_4 fV_together_4 u71 gV_list_x60 dV_list_x60 nV_list_x60 iV_listed_x60 iV_listDone) := by rw [hu71]; exact hD
                          have b_u71 : ∀ q : Nat, -1 ≤ (u71 q).toInt ∧ (u71 q).toInt ≤ 15 := by rw [hu71]; exact upd_r b_u62 (by first | assumption | decide)
                          have b1_u71 : u71 = upd u62 ((iI (l1_x60.toInt + 1))).toNatClampNeg (-1) := hu71
                          clear hu71
                          refine lv_goto (tgt := 142) hx hb dX7_makeListing_135 (by decide) ?_
                          have hl : lv_has _ _ ([(2, .int l2_x60), (1, .int (iI (l1_x60.toInt + 1))), (0, .ref (hV 0))]) := lv_sub hl [1, 0, 2] rfl
                          refine W.known (fun hza hna => ?_)
                          refine W.widen (k := 5000) (n := 40000) (by omega) (by omega) ?_
                          exact join18 _ _ _ _ ⟨u71, gV_list_x60, dV_list_x60, nV_list_x60, iV_listed_x60, (iI (l1_x60.toInt + 1)), b_u71, (by first | exact b_nV_list_x60 | with_reducible assumption | exact ⟨by omega, by omega⟩ | assumption), (b_iV_listed_x60), (iI_rng (Int.le_trans (by decide) (Int.add_le_add (b_l1_x60.1) (Int.le_refl _))) (by omega) (by decide) (by decide)), (by first | with_reducible assumption | omega | (rw [iI_t (by omega) (by omega)]; omega) | (have h8 : (-1 : Int32).toInt = -1 := (by decide); have h7 : (0 : Int32).toInt = 0 := (by decide); omega)), (show MemC u71 (iI (l1_x60.toInt + 1)).toInt from by first | exact MemC.any hMc (by assumption) (by omega) (by rw [iI_t (by omega) (by omega)]; omega) (by rw [iI_t (by omega) (by omega)]; omega) | exact MemC.any hMs (by assumption) (by rw [iI_t (by omega) (by omega)]; omega) (by omega) (by rw [iI_t (by omega) (by omega)]; omega) | exact MemC.less hMs (by omega)), (show (iI (l1_x60.toInt + 1)).toInt < iV_holders.toInt from by first | assumption | omega | (rw [iI_t (by omega) (by omega)]; omega)), (show 0 ≤ iV_listed_x60.toInt from by omega), (show nV_list ≤ nV_list_x60 from by omega), ⟨by omega, by omega⟩, rfl, hP, hD, hS, hl⟩
                    · have t_98 : v63.toInt = (-1) := toI_nne c_98 rfl (by decide : ((-1) : Int32).toInt = (-1))
                      refine lv_iinc (v := (iI (l1_x60.toInt + (-1)))) hx hb dX7_makeListing_101 hl (k := 1) rfl (iI_add2 (iI_of _) (by decide : ((-1) : Int32) = iI (-1))) (by decide) rfl (fun ls (hl : lv_has ls _ ([(1, .int (iI (l1_x60.toInt + (-1)))), (2, .int l2_x60), (0, .ref (hV 0))])) => ?_)
                      refine lv_goto (tgt := 142) hx hb dX7_makeListing_104 (by decide) ?_
                      have hl : lv_has _ _ ([(2, .int l2_x60), (1, .int (iI (l1_x60.toInt + (-1)))), (0, .ref (hV 0))]) := lv_sub hl [1, 0, 2] rfl
                      refine W.known (fun hza hna => ?_)
                      refine W.widen (k := 5000) (n := 40000) (by omega) (by omega) ?_
                      exact join18 _ _ _ _ ⟨u62, gV_list_x60, dV_list_x60, nV_list_x60, iV_listed_x60, (iI (l1_x60.toInt + (-1))), b_u62, (by first | exact b_nV_list_x60 | with_reducible assumption | exact ⟨by omega, by omega⟩ | assumption), (b_iV_listed_x60), (iI_rng (by omega) (Int.le_trans (Int.add_le_add (b_l1_x60.2) (Int.le_refl _)) (by decide)) (by decide) (by decide)), (by first | with_reducible assumption | omega | (rw [iI_t (by omega) (by omega)]; omega) | (have h8 : (-1 : Int32).toInt = -1 := (by decide); have h7 : (0 : Int32).toInt = 0 := (by decide); omega)), (show MemC u62 (iI (l1_x60.toInt + (-1))).toInt from by first | exact MemC.any hMc (by assumption) (by omega) (by rw [iI_t (by omega) (by omega)]; omega) (by rw [iI_t (by omega) (by omega)]; omega) | exact MemC.any hMs (by assumption) (by rw [iI_t (by omega) (by omega)]; omega) (by omega) (by rw [iI_t (by omega) (by omega)]; omega) | exact MemC.less hMs (by omega)), (show (iI (l1_x60.toInt + (-1))).toInt < iV_holders.toInt from by first | assumption | omega | (rw [iI_t (by omega) (by omega)]; omega)), (show 0 ≤ iV_listed_x60.toInt from by omega), (show nV_list ≤ nV_list_x60 from by omega), ⟨by omega, by omega⟩, rfl, hP, hD, hS, hl⟩
                  · intro H locs ls stk
                    refine fz_e6 ?_
                    intro fV_member_j18 gV_list_j18 dV_list_j18 nV_list_j18 iV_listed_j18 l1_j18
                    refine fz_a15 ?_
                    intro b_fV_member_j18 b_nV_list_j18 b_iV_listed_j18 b_l1_j18 b_lst_j18 hMc hah hli hgm0_j18 hzn9_9 hst9_10 hP hD hS hl
                    have hzj := hzn9_9.1
                    have hnj := hzn9_9.2
                    clear hzn9_9
                    subst hst9_10
                    refine W.tight (cells2 := (nV_list_j18 / 4 - (nV_list / 4))) (slots2 := (2 * nV_list_j18 - (2 * nV_list))) (tg1 hzj hS.1) (tg2 hnj) ?_
                    refine lv_iinc (v := (iI (l2_x60.toInt + 1))) hx hb dX7_makeListing_142 hl (k := 0) rfl (iI_add2 (iI_of _) (by decide : (1 : Int32) = iI 1)) (by decide) rfl (fun ls (hl : lv_has ls _ ([(2, .int (iI (l2_x60.toInt + 1))), (1, .int l1_j18), (0, .ref (hV 0))])) => ?_)
                    refine lv_goto (tgt := 60) hx hb dX7_makeListing_145 (by decide) ?_
                    have hl : lv_has _ _ ([(2, .int (iI (l2_x60.toInt + 1))), (1, .int l1_j18), (0, .ref (hV 0))]) := lv_sub hl [0, 1, 2] rfl
                    exact ihx60 fV_member_j18 gV_list_j18 dV_list_j18 nV_list_j18 iV_listed_j18 (iI (l2_x60.toInt + 1)) l1_j18 _ _ _ b_fV_member_j18 (by first | exact b_nV_list_j18 | with_reducible assumption | exact ⟨by omega, by omega⟩ | assumption) (b_iV_listed_j18) (iI_rng (Int.le_trans (by decide) (Int.add_le_add (b_l2_x60.1) (Int.le_refl _))) (by omega) (by decide) (by decide)) (b_l1_j18) (by first | with_reducible assumption | omega | (rw [iI_t (by omega) (by omega)]; omega) | (have h8 : (-1 : Int32).toInt = -1 := (by decide); have h7 : (0 : Int32).toInt = 0 := (by decide); omega)) (show MemC fV_member_j18 l1_j18.toInt from by assumption) (show l1_j18.toInt < iV_holders.toInt from by first | assumption | omega | (rw [iI_t (by omega) (by omega)]; omega)) (show 0 ≤ iV_listed_j18.toInt from by omega) (show nV_list ≤ nV_list_j18 from by omega) (by have e9 : ((iI (l2_x60.toInt + 1))).toInt = (l2_x60.toInt + 1) := (iI_t (Int.le_trans (by decide) (Int.add_le_add (b_l2_x60.1) (Int.le_refl _))) (Int.le_trans (Int.add_le_add (b_l2_x60.2) (Int.le_refl _)) (by decide))); omega) hP hD hS hl
          · rintro H locs ls stk ⟨⟨hzj, hnj⟩, rfl, hP, hD, hS, hl⟩
            refine W.tight (cells2 := (nV_list_x60 / 4 - (nV_list / 4))) (slots2 := (2 * nV_list_x60 - (2 * nV_list))) (tg1 hzj hS.1) (tg2 hnj) ?_
            refine W.known (fun hz9 hn9 => ?_)
            refine W.widen (k := 10001) (n := 100000) (by omega) (by omega) ?_
            exact W.vret hx hb hr (fun t9_ ht hW => ⟨⟨(fV_now_4, iV_doneFor_4, iV_changed_4, gV_fore_4, gV_back_4, fV_together_4, fV_member_x60, gV_list_x60, dV_list_x60, nV_list_x60, iV_listed_x60), rfl, ⟨b_iV_changed_4, b_fV_member_x60, (by (try dsimp only); exact (by first | exact b_nV_list_x60 | with_reducible assumption | exact ⟨by omega, by omega⟩ | assumption)), b_iV_listed_x60, (by (try dsimp only); exact (by first | with_reducible assumption | omega | (rw [iI_t (by omega) (by omega)]; omega) | (have h8 : (-1 : Int32).toInt = -1 := (by decide); have h7 : (0 : Int32).toInt = 0 := (by decide); omega))), (by (try dsimp only); omega)⟩, by rw [ht]; exact hP, hD, by rw [ht]; (try dsimp only); omega, by rw [ht]; (try dsimp only); omega⟩, hS.F ht⟩) hS.2.2 dX7_makeListing_148
      · have t_29 : iV_holders.toInt = 0 := toI_nne c_29 rfl (by decide : (0 : Int32).toInt = 0)
        refine lv_aload_n hx hb dX7_makeListing_32 rfl (lv_at hl 0 rfl) ?_
        refine W.known (fun hz0 hn0 => ?_)
        have hS0 := hS.1
        have hFc := allFree hD hS hA
        refine va_callv (va_runV (As := []) (rest := []) ⟨hx, hb, hml, hown, hts⟩ (Met.sV (m_X7_keepListed l dC dI hV aV kV iV_holders iV_rules fV_pairs fV_domain fV_kind fV_a fV_b fV_c fV_rulePairs fV_lastHolder fV_now iV_doneFor iV_changed gV_fore gV_back fV_together fV_member gV_list dV_list nV_list k0_j10 iV_listDone (b_iV_holders) (b_iV_rules) b_fV_kind (b_iV_changed) b_fV_member (by first | exact b_nV_list | with_reducible assumption | exact ⟨by omega, by omega⟩ | assumption) (⟨b_k0_j10.1, Int.le_trans b_k0_j10.2 (by decide)⟩) (b_iV_listDone) (by first | with_reducible assumption | omega | assumption) (by first | with_reducible assumption | omega | (rw [iI_t (by omega) (by omega)]; omega) | (have h8 : (-1 : Int32).toInt = -1 := (by decide); have h7 : (0 : Int32).toInt = 0 := (by decide); omega)) (by first | with_reducible assumption | omega | (rw [iI_t (by omega) (by omega)]; omega) | decide | assumption) (by first | with_reducible assumption | omega | (rw [iI_t (by omega) (by omega)]; omega) | decide | assumption) H.size) H) (cwV 0 hts gwsMX7_makeListing_4 rfl rfl rfl (by decide +kernel) ⟨by first | decide +kernel | (dsimp only [headSpec] <;> omega), by first | decide +kernel | (dsimp only [headSpec] <;> omega)⟩) ⟨fun a U g mk q => by obtain ⟨q0, qh, q1, qP, qK, qD⟩ := q; exact ⟨q0, qh, q1, qP, va_K.moved (u := U) (U := U.calling g mk a) (Vm.Alike.refl U.vm) qK, qD⟩, va_recv hK hP (ci := 7) (q0 := 0) rfl rfl, fun U hU9 hW => ⟨rfl, hU9, by rw [hU9], by rw [hU9]; exact hP, va_K.moved hW.alike hK, hD.weaken (fun _ _ _ _ => trivial)⟩⟩ rfl rfl hl.1 rfl (lv_room (Nat.le_of_ble_eq_true rfl)) dX7_makeListing_33 ⟨by first | decide +kernel | (dsimp only [headSpec] <;> omega), by first | decide +kernel | (dsimp only [headSpec] <;> omega)⟩) hS (fun q _ h => hFc q h) hFc (fun u t9_ H locs ht hvm hw9 hB9 hz1 hk1 hS => ?_)
        revert u hw9 hB9
        refine fz_p4 ?_
        intro gV_list_72 dV_list_72 nV_list_72 iV_listed_72 hw9 hB9
        try dsimp only at hw9 hB9
        revert hw9
        refine fz_a5 ?_
        intro b_nV_list_72 b_iV_listed_72 b_lst_72 f72_0 f72_1
        have hg1 := hB9.1.2.2.1
        rw [ht] at hg1
        have hg2 := hB9.1.2.2.2
        rw [ht] at hg2
        have hSz := hB9.2
        rw [ht] at hSz
        have hP : va_P (dC, dI) vwCl (WV hV aV kV iV_holders iV_rules fV_pairs fV_domain fV_kind fV_a fV_b fV_c fV_rulePairs fV_lastHolder fV_now iV_doneFor iV_changed gV_fore gV_back fV_together fV_member gV_list_72 dV_list_72 nV_list_72 iV_listed_72 iV_listDone) H := fz_P ht hB9.1.1
        have hD := fz_sd hP (hB9.1.2.1.weaken (fun _ q _ h => hFc q.1 h)) rfl
        have hz9 : H.size ≤ s.heap.size + (nV_list_72 / 4 - (nV_list / 4)) := by (try dsimp only at hg1); omega
        have hn9 : nS s.heap.size H ≤ (2 * nV_list_72 - (2 * nV_list)) := by rw [hSz.n hS0]; (try dsimp only at hg2); omega
        refine W.tight (cells2 := (nV_list_72 / 4 - (nV_list / 4))) (slots2 := (2 * nV_list_72 - (2 * nV_list))) hz9 hn9 ?_
        clear hz9 hn9 hz0 hn0 hS0 hSz hg1 hg2
        refine W.known (fun hz9 hn9 => ?_)
        refine W.widen (k := 10001) (n := 100000) (by omega) (by omega) ?_
        exact W.vret hx hb hr (fun t9_ ht hW => ⟨⟨(fV_now, iV_doneFor, iV_changed, gV_fore, gV_back, fV_together, fV_member, gV_list_72, dV_list_72, nV_list_72, iV_listed_72), rfl, ⟨b_iV_changed, b_fV_member, (by (try dsimp only); exact (by first | exact b_nV_list_72 | with_reducible assumption | exact ⟨by omega, by omega⟩ | assumption)), b_iV_listed_72, (by (try dsimp only); exact (by first | with_reducible assumption | omega | (rw [iI_t (by omega) (by omega)]; omega) | (have h8 : (-1 : Int32).toInt = -1 := (by decide); have h7 : (0 : Int32).toInt = 0 := (by decide); omega))), (by (try dsimp only); omega)⟩, by rw [ht]; exact hP, hD, by rw [ht]; (try dsimp only); omega, by rw [ht]; (try dsimp only); omega⟩, hS.F ht⟩) hS.2.2 dX7_makeListing_36
    · have t_21 : k0_j10.toInt = (-1) := toI_nne c_21 rfl (by decide : ((-1) : Int32).toInt = (-1))
      refine W.known (fun hz9 hn9 => ?_)
      refine W.widen (k := 10001) (n := 100000) (by omega) (by omega) ?_
      exact W.vret hx hb hr (fun t9_ ht hW => ⟨⟨(fV_now, iV_doneFor, iV_changed, gV_fore, gV_back, fV_together, fV_member, gV_list, dV_list, nV_list, k0_j10), rfl, ⟨b_iV_changed, b_fV_member, (by (try dsimp only); exact (by first | exact b_nV_list | with_reducible assumption | exact ⟨by omega, by omega⟩ | assumption)), (by (try dsimp only); exact (⟨b_k0_j10.1, Int.le_trans b_k0_j10.2 (by decide)⟩)), (by (try dsimp only); exact (by first | with_reducible assumption | omega | (rw [iI_t (by omega) (by omega)]; omega) | (have h8 : (-1 : Int32).toInt = -1 := (by decide); have h7 : (0 : Int32).toInt = 0 := (by decide); omega))), (by (try dsimp only); omega)⟩, by rw [ht]; exact hP, hD, by rw [ht]; (try dsimp only); omega, by rw [ht]; (try dsimp only); omega⟩, hS.F ht⟩) hS.2.2 dX7_makeListing_24
theorem dX7_listingSize_0 : decode cX7_listingSize 0 = .ok (.aload_n 0, 1) := dk_42 (by decide +kernel)
theorem dX7_listingSize_1 : decode cX7_listingSize 1 = .ok (.getfield 68, 3) := dk_180 (by decide +kernel)
theorem dX7_listingSize_4 : decode cX7_listingSize 4 = .ok (.ifCond .ne 12, 3) := dk_154 (by decide +kernel)
theorem dX7_listingSize_7 : decode cX7_listingSize 7 = .ok (.aload_n 0, 1) := dk_42 (by decide +kernel)
theorem dX7_listingSize_8 : decode cX7_listingSize 8 = .ok (.iconst 1, 1) := dk_4 (by decide +kernel)
theorem dX7_listingSize_9 : decode cX7_listingSize 9 = .ok (.putfield 68, 3) := dk_181 (by decide +kernel)
theorem dX7_listingSize_12 : decode cX7_listingSize 12 = .ok (.aload_n 0, 1) := dk_42 (by decide +kernel)
theorem dX7_listingSize_13 : decode cX7_listingSize 13 = .ok (.invokevirtual 163, 3) := dk_182 (by decide +kernel)
theorem dX7_listingSize_16 : decode cX7_listingSize 16 = .ok (.aload_n 0, 1) := dk_42 (by decide +kernel)
theorem dX7_listingSize_17 : decode cX7_listingSize 17 = .ok (.getfield 166, 3) := dk_180 (by decide +kernel)
theorem dX7_listingSize_20 : decode cX7_listingSize 20 = .ok (.ireturn, 1) := dk_172 (by decide +kernel)
def wsMX7_listingSize : List Cond := .code yX7_listingSize cX7_listingSize 1 (some .int) :: ([.fieldLink RX7 68 "OptimaWorks$ValueDesk" "listDone" "Z", .fieldLink RX7 166 "OptimaWorks$ValueDesk" "listed" "I"] ++ wsX70 ++ (wsV RX7 163 RX7 yX7_makeListing wsMX7_makeListing))
theorem iwsMX7_listingSize_in7 : ∀ w ∈ wsX70, w ∈ wsMX7_listingSize := fun _ h => List.mem_cons_of_mem _ (List.mem_append_left _ (List.mem_append_right _ h))
theorem gwsMX7_listingSize_0 : GoodIn wsMX7_listingSize (wsV RX7 163 RX7 yX7_makeListing wsMX7_makeListing) := goodIn_sub (fun _ h => List.mem_cons_of_mem _ (List.mem_append_right _ h)) (gdV (by decide +kernel) gdwsMX7_makeListing)
theorem gdwsMX7_listingSize : wsMX7_listingSize.all goodWord = true := gdC rfl (gdA (gdA (by decide +kernel : ([.fieldLink RX7 68 "OptimaWorks$ValueDesk" "listDone" "Z", .fieldLink RX7 166 "OptimaWorks$ValueDesk" "listed" "I"] : List Cond).all goodWord = true) gdwsX70) (gdV (by decide +kernel) gdwsMX7_makeListing))
theorem hm_m_X7_listingSize_0 : (.fieldLink RX7 68 "OptimaWorks$ValueDesk" "listDone" "Z" : Cond) ∈ wsMX7_listingSize := by decide +kernel
set_option maxHeartbeats 4000000 in
set_option maxRecDepth 100000 in
/-- how many are listed -/
theorem m_X7_listingSize (l : Launch) (dC : Nat → ClassId) (dI : Nat → Nat → Nat) (hV : Nat → Nat) (aV : Nat → Nat) (kV : Nat → ClassId) (iV_holders : Int32) (iV_rules : Int32) (fV_pairs : Nat → Int32) (fV_domain : Nat → Int32) (fV_kind : Nat → Int32) (fV_a : Nat → Int32) (fV_b : Nat → Int32) (fV_c : Nat → Int32) (fV_rulePairs : Nat → Int32) (fV_lastHolder : Nat → Int32) (fV_now : Nat → Int32) (iV_doneFor : Int32) (iV_changed : Int32) (gV_fore : Nat → Int64) (gV_back : Nat → Int64) (fV_together : Nat → Int32) (fV_member : Nat → Int32) (gV_list : Nat → Int64) (dV_list : Nat) (nV_list : Nat) (iV_listed : Int32) (iV_listDone : Int32) (b_iV_holders : 0 ≤ iV_holders.toInt ∧ iV_holders.toInt ≤ 10) (b_iV_rules : 0 ≤ iV_rules.toInt ∧ iV_rules.toInt ≤ 12) (b_fV_kind : ∀ q : Nat, 0 ≤ (fV_kind q).toInt ∧ (fV_kind q).toInt ≤ 4) (b_iV_changed : 0 ≤ iV_changed.toInt ∧ iV_changed.toInt ≤ 1) (b_fV_member : ∀ q : Nat, (-1) ≤ (fV_member q).toInt ∧ (fV_member q).toInt ≤ 15) (b_nV_list : 0 ≤ nV_list ∧ nV_list ≤ 20000) (b_iV_listed : (-1) ≤ iV_listed.toInt ∧ iV_listed.toInt ≤ 5000) (b_iV_listDone : 0 ≤ iV_listDone.toInt ∧ iV_listDone.toInt ≤ 1) (b_RuV : RuV fV_kind fV_a fV_b fV_c fV_lastHolder) (b_lst : iV_listed.toInt ≤ ((nV_list : Nat) : Int)) (sz : Nat) : Met l yX7_listingSize wsMX7_listingSize ({ frames := 5, cells := 15001, slots := 140000, locals := 121 }) (va_Pc [.ref (hV 0)] (fun U => U.heap.size = sz ∧ va_P (dC, dI) vwCl (WV hV aV kV iV_holders iV_rules fV_pairs fV_domain fV_kind fV_a fV_b fV_c fV_rulePairs fV_lastHolder fV_now iV_doneFor iV_changed gV_fore gV_back fV_together fV_member gV_list dV_list nV_list iV_listed iV_listDone) U.heap ∧ va_K (dC, dI) vwCl (tV kV) U ∧ va_D (fun _ => True) (WV hV aV kV iV_holders iV_rules fV_pairs fV_domain fV_kind fV_a fV_b fV_c fV_rulePairs fV_lastHolder fV_now iV_doneFor iV_changed gV_fore gV_back fV_together fV_member gV_list dV_list nV_list iV_listed iV_listDone))) (va_Qi (fun (r : Int32) (u : (Nat → Int32) × (Int32) × (Int32) × (Nat → Int64) × (Nat → Int64) × (Nat → Int32) × (Nat → Int32) × (Nat → Int64) × (Nat) × (Nat) × (Int32) × (Int32)) => (0 ≤ (u.2.2.1).toInt ∧ (u.2.2.1).toInt ≤ 1) ∧ (∀ q : Nat, (-1) ≤ ((u.2.2.2.2.2.2.1) q).toInt ∧ ((u.2.2.2.2.2.2.1) q).toInt ≤ 15) ∧ (0 ≤ (u.2.2.2.2.2.2.2.2.2.1) ∧ (u.2.2.2.2.2.2.2.2.2.1) ≤ 20000) ∧ ((-1) ≤ (u.2.2.2.2.2.2.2.2.2.2.1).toInt ∧ (u.2.2.2.2.2.2.2.2.2.2.1).toInt ≤ 5000) ∧ (0 ≤ (u.2.2.2.2.2.2.2.2.2.2.2).toInt ∧ (u.2.2.2.2.2.2.2.2.2.2.2).toInt ≤ 1) ∧ ((u.2.2.2.2.2.2.2.2.2.2.1).toInt ≤ (((u.2.2.2.2.2.2.2.2.2.1) : Nat) : Int)) ∧ ((-1) ≤ r.toInt ∧ r.toInt ≤ 5000) ∧ (nV_list ≤ (u.2.2.2.2.2.2.2.2.2.1)) ∧ (r.toInt ≤ (((u.2.2.2.2.2.2.2.2.2.1) : Nat) : Int))) (fun (u : (Nat → Int32) × (Int32) × (Int32) × (Nat → Int64) × (Nat → Int64) × (Nat → Int32) × (Nat → Int32) × (Nat → Int64) × (Nat) × (Nat) × (Int32) × (Int32)) t => va_P (dC, dI) vwCl (WV hV aV kV iV_holders iV_rules fV_pairs fV_domain fV_kind fV_a fV_b fV_c fV_rulePairs fV_lastHolder (u.1) (u.2.1) (u.2.2.1) (u.2.2.2.1) (u.2.2.2.2.1) (u.2.2.2.2.2.1) (u.2.2.2.2.2.2.1) (u.2.2.2.2.2.2.2.1) (u.2.2.2.2.2.2.2.2.1) (u.2.2.2.2.2.2.2.2.2.1) (u.2.2.2.2.2.2.2.2.2.2.1) (u.2.2.2.2.2.2.2.2.2.2.2)) t.heap ∧ va_D (va_A (WV hV aV kV iV_holders iV_rules fV_pairs fV_domain fV_kind fV_a fV_b fV_c fV_rulePairs fV_lastHolder fV_now iV_doneFor iV_changed gV_fore gV_back fV_together fV_member gV_list dV_list nV_list iV_listed iV_listDone) sz) (WV hV aV kV iV_holders iV_rules fV_pairs fV_domain fV_kind fV_a fV_b fV_c fV_rulePairs fV_lastHolder (u.1) (u.2.1) (u.2.2.1) (u.2.2.2.1) (u.2.2.2.2.1) (u.2.2.2.2.2.1) (u.2.2.2.2.2.2.1) (u.2.2.2.2.2.2.2.1) (u.2.2.2.2.2.2.2.2.1) (u.2.2.2.2.2.2.2.2.2.1) (u.2.2.2.2.2.2.2.2.2.2.1) (u.2.2.2.2.2.2.2.2.2.2.2)) ∧ t.heap.size + (nV_list / 4) ≤ sz + ((u.2.2.2.2.2.2.2.2.2.1) / 4) ∧ nS sz t.heap + (2 * nV_list) ≤ (2 * (u.2.2.2.2.2.2.2.2.2.1))) (va_A (WV hV aV kV iV_holders iV_rules fV_pairs fV_domain fV_kind fV_a fV_b fV_c fV_rulePairs fV_lastHolder fV_now iV_doneFor iV_changed gV_fore gV_back fV_together fV_member gV_list dV_list nV_list iV_listed iV_listDone) sz)) 15001 140000 (va_A (WV hV aV kV iV_holders iV_rules fV_pairs fV_domain fV_kind fV_a fV_b fV_c fV_rulePairs fV_lastHolder fV_now iV_doneFor iV_changed gV_fore gV_back fV_together fV_member gV_list dV_list nV_list iV_listed iV_listDone) sz) := by
  refine Met.ofW (cc := cX7_listingSize) (maxL := 1) (ret := (some .int)) (by decide) rfl ?_
  intro p e s m args below meth c s₁ B hml hv
  obtain ⟨rfl, hsz, hP, hK, hD0⟩ := hv
  have hx := B.exec
  have hb := B.bytes
  have hr := B.returns
  have hts := atoms_spec (ws := wsMX7_listingSize) B.pre
  have hown : s.vm.findClass RX7 = some m.cls := findClass_of_methodNamed B.named
  have hlocks := B.notSynchronized
  subst hsz
  have hD := hD0.self (sz := s.heap.size)
  generalize hAe : va_A (WV hV aV kV iV_holders iV_rules fV_pairs fV_domain fV_kind fV_a fV_b fV_c fV_rulePairs fV_lastHolder fV_now iV_doneFor iV_changed gV_fore gV_back fV_together fV_member gV_list dV_list nV_list iV_listed iV_listDone) s.heap.size = A at hD ⊢
  have hA : ∀ q : Nat, s.heap.size ≤ q → A q := fun q h => by rw [← hAe]; exact Or.inr h
  have hS : va_S A s.heap s.heap [] := va_S.rf
  have hl := lv_entry ([.ref (hV 0)]) (n := 1) (Nat.le_of_ble_eq_true rfl)
  rw [lg_entry_eq]
  generalize (lg_sl ([.ref (hV 0)]) ++ List.replicate (1 - (lg_sl ([.ref (hV 0)])).length) Slot.unset).toArray = ls at hl ⊢
  have hl : lv_has ls 1 [(0, .ref (hV 0))] := hl
  refine W.widen (k := (nV_list / 4 - (nV_list / 4))) (n := (2 * nV_list - (2 * nV_list))) (Nat.zero_le _) (Nat.zero_le _) ?_
  refine lv_aload_n hx hb dX7_listingSize_0 rfl (lv_at hl 0 rfl) ?_
  refine va_get (D := (dC, dI)) (ci := 7) (v := .int iV_listDone) (C := RX7) (T := TX7) (N := 20) hx hb hts iwsMX7_listingSize_in7 hown hK hP 0 rfl rfl 19 (by decide) (hts _ hm_m_X7_listingSize_0) (fun _ h9 => h9) rfl dX7_listingSize_1 ?_
  refine W.known (fun hzk hnk => ?_)
  refine W.widen (k := 5000) (n := 40000) (by omega) (by omega) ?_
  refine W.cut (pc := 16) (fun H locs ls stk => ∃ (fV_now_j2 : Nat → Int32) (iV_doneFor_j2 : Int32) (iV_changed_j2 : Int32) (gV_fore_j2 : Nat → Int64) (gV_back_j2 : Nat → Int64) (fV_together_j2 : Nat → Int32) (fV_member_j2 : Nat → Int32) (gV_list_j2 : Nat → Int64) (dV_list_j2 : Nat) (nV_list_j2 : Nat) (iV_listed_j2 : Int32) (iV_listDone_j2 : Int32), (0 ≤ iV_changed_j2.toInt ∧ iV_changed_j2.toInt ≤ 1) ∧ (∀ q : Nat, (-1) ≤ (fV_member_j2 q).toInt ∧ (fV_member_j2 q).toInt ≤ 15) ∧ (0 ≤ nV_list_j2 ∧ nV_list_j2 ≤ 20000) ∧ ((-1) ≤ iV_listed_j2.toInt ∧ iV_listed_j2.toInt ≤ 5000) ∧ (0 ≤ iV_listDone_j2.toInt ∧ iV_listDone_j2.toInt ≤ 1) ∧ (iV_listed_j2.toInt ≤ ((nV_list_j2 : Nat) : Int)) ∧ (nV_list ≤ nV_list_j2) ∧ (H.size + (nV_list / 4) ≤ s.heap.size + (nV_list_j2 / 4) ∧ nS s.heap.size H + (2 * nV_list) ≤ (2 * nV_list_j2)) ∧  stk = [] ∧ va_P (dC, dI) vwCl (WV hV aV kV iV_holders iV_rules fV_pairs fV_domain fV_kind fV_a fV_b fV_c fV_rulePairs fV_lastHolder fV_now_j2 iV_doneFor_j2 iV_changed_j2 gV_fore_j2 gV_back_j2 fV_together_j2 fV_member_j2 gV_list_j2 dV_list_j2 nV_list_j2 iV_listed_j2 iV_listDone_j2) H ∧ va_D A (WV hV aV kV iV_holders iV_rules fV_pairs fV_domain fV_kind fV_a fV_b fV_c fV_rulePairs fV_lastHolder fV_now_j2 iV_doneFor_j2 iV_changed_j2 gV_fore_j2 gV_back_j2 fV_together_j2 fV_member_j2 gV_list_j2 dV_list_j2 nV_list_j2 iV_listed_j2 iV_listDone_j2) ∧ va_S A s.heap H locs ∧ lv_has ls 1 [(0, .ref (hV 0))]) (fun join2 => ?_) ?_
  · refine W.tight (cells2 := (nV_list / 4 - (nV_list / 4))) (slots2 := (2 * nV_list - (2 * nV_list))) hzk hnk ?_
    refine lv_if_ne (tgt := 16) hx hb dX7_listingSize_4 (by decide) (fun c_4 => ?_) (fun c_4 => ?_)
    · have t_4 : iV_listDone.toInt ≠ 0 := toI_ne c_4 rfl (by decide : (0 : Int32).toInt = 0)
      have hl : lv_has _ _ ([(0, .ref (hV 0))]) := lv_sub hl [0] rfl
      refine W.known (fun hza hna => ?_)
      refine W.widen (k := 5000) (n := 40000) (by omega) (by omega) ?_
      exact join2 _ _ _ _ ⟨fV_now, iV_doneFor, iV_changed, gV_fore, gV_back, fV_together, fV_member, gV_list, dV_list, nV_list, iV_listed, iV_listDone, (b_iV_changed), b_fV_member, (by first | exact b_nV_list | with_reducible assumption | exact ⟨by omega, by omega⟩ | assumption), (b_iV_listed), (b_iV_listDone), (by first | with_reducible assumption | omega | (rw [iI_t (by omega) (by omega)]; omega) | (have h8 : (-1 : Int32).toInt = -1 := (by decide); have h7 : (0 : Int32).toInt = 0 := (by decide); omega)), (show nV_list ≤ nV_list from by omega), ⟨by omega, by omega⟩, rfl, hP, hD, hS, hl⟩
    · have t_4 : iV_listDone.toInt = 0 := toI_nne c_4 rfl (by decide : (0 : Int32).toInt = 0)
      refine lv_aload_n hx hb dX7_listingSize_7 rfl (lv_at hl 0 rfl) ?_
      refine lv_iconst (v := 1) hx hb dX7_listingSize_8 (by decide) ?_
      refine va_put (D := (dC, dI)) (ci := 7) (v := .int 1) (ty := .boolean) (C := RX7) (T := TX7) (N := 20) hx hb hts iwsMX7_listingSize_in7 tyX7 tyX7_ok nmX7 hown hK hP hD hS 0 rfl rfl 19 (by decide) (hts _ hm_m_X7_listingSize_0) (fun _ h9 => h9) rfl (by decide +kernel) rfl rfl (Nat.le_of_ble_eq_true rfl) dX7_listingSize_9 (fun H locs hP hD hS => ?_)
      have hP : va_P (dC, dI) vwCl (WV hV aV kV iV_holders iV_rules fV_pairs fV_domain fV_kind fV_a fV_b fV_c fV_rulePairs fV_lastHolder fV_now iV_doneFor iV_changed gV_fore gV_back fV_together fV_member gV_list dV_list nV_list iV_listed 1) H := hP
      have hD := fz_sd hP (hD) rfl
      refine lv_aload_n hx hb dX7_listingSize_12 rfl (lv_at hl 0 rfl) ?_
      refine W.known (fun hz0 hn0 => ?_)
      have hS0 := hS.1
      have hFc := allFree hD hS hA
      refine va_callv (va_runV (As := []) (rest := []) ⟨hx, hb, hml, hown, hts⟩ (Met.sV (m_X7_makeListing l dC dI hV aV kV iV_holders iV_rules fV_pairs fV_domain fV_kind fV_a fV_b fV_c fV_rulePairs fV_lastHolder fV_now iV_doneFor iV_changed gV_fore gV_back fV_together fV_member gV_list dV_list nV_list iV_listed 1 (b_iV_holders) (b_iV_rules) b_fV_kind (b_iV_changed) b_fV_member (by first | exact b_nV_list | with_reducible assumption | exact ⟨by omega, by omega⟩ | assumption) (b_iV_listed) (show 0 ≤ (1 : Int32).toInt ∧ (1 : Int32).toInt ≤ 1 from by decide) (by first | with_reducible assumption | omega | assumption) (by first | with_reducible assumption | omega | (rw [iI_t (by omega) (by omega)]; omega) | (have h8 : (-1 : Int32).toInt = -1 := (by decide); have h7 : (0 : Int32).toInt = 0 := (by decide); omega)) H.size) H) (cwV 0 hts gwsMX7_listingSize_0 rfl rfl rfl (by decide +kernel) ⟨by first | decide +kernel | (dsimp only [headSpec] <;> omega), by first | decide +kernel | (dsimp only [headSpec] <;> omega)⟩) ⟨fun a U g mk q => by obtain ⟨q0, qh, q1, qP, qK, qD⟩ := q; exact ⟨q0, qh, q1, qP, va_K.moved (u := U) (U := U.calling g mk a) (Vm.Alike.refl U.vm) qK, qD⟩, va_recv hK hP (ci := 7) (q0 := 0) rfl rfl, fun U hU9 hW => ⟨rfl, hU9, by rw [hU9], by rw [hU9]; exact hP, va_K.moved hW.alike hK, hD.weaken (fun _ _ _ _ => trivial)⟩⟩ rfl rfl hl.1 rfl (lv_room (Nat.le_of_ble_eq_true rfl)) dX7_listingSize_13 ⟨by first | decide +kernel | (dsimp only [headSpec] <;> omega), by first | decide +kernel | (dsimp only [headSpec] <;> omega)⟩) hS (fun q _ h => hFc q h) hFc (fun u t9_ H locs ht hvm hw9 hB9 hz1 hk1 hS => ?_)
      revert u hw9 hB9
      refine fz_p11 ?_
      intro fV_now_2 iV_doneFor_2 iV_changed_2 gV_fore_2 gV_back_2 fV_together_2 fV_member_2 gV_list_2 dV_list_2 nV_list_2 iV_listed_2 hw9 hB9
      try dsimp only at hw9 hB9
      revert hw9
      refine fz_a6 ?_
      intro b_iV_changed_2 b_fV_member_2 b_nV_list_2 b_iV_listed_2 b_lst_2 f2_0
      have hg1 := hB9.1.2.2.1
      rw [ht] at hg1
      have hg2 := hB9.1.2.2.2
      rw [ht] at hg2
      have hSz := hB9.2
      rw [ht] at hSz
      have hP : va_P (dC, dI) vwCl (WV hV aV kV iV_holders iV_rules fV_pairs fV_domain fV_kind fV_a fV_b fV_c fV_rulePairs fV_lastHolder fV_now_2 iV_doneFor_2 iV_changed_2 gV_fore_2 gV_back_2 fV_together_2 fV_member_2 gV_list_2 dV_list_2 nV_list_2 iV_listed_2 1) H := fz_P ht hB9.1.1
      have hD := fz_sd hP (hB9.1.2.1.weaken (fun _ q _ h => hFc q.1 h)) rfl
      have hz9 : H.size ≤ s.heap.size + (nV_list_2 / 4 - (nV_list / 4)) := by (try dsimp only at hg1); omega
      have hn9 : nS s.heap.size H ≤ (2 * nV_list_2 - (2 * nV_list)) := by rw [hSz.n hS0]; (try dsimp only at hg2); omega
      refine W.tight (cells2 := (nV_list_2 / 4 - (nV_list / 4))) (slots2 := (2 * nV_list_2 - (2 * nV_list))) hz9 hn9 ?_
      clear hz9 hn9 hz0 hn0 hS0 hSz hg1 hg2
      have hl : lv_has _ _ ([(0, .ref (hV 0))]) := lv_sub hl [0] rfl
      refine W.known (fun hza hna => ?_)
      refine W.widen (k := 5000) (n := 40000) (by omega) (by omega) ?_
      exact join2 _ _ _ _ ⟨fV_now_2, iV_doneFor_2, iV_changed_2, gV_fore_2, gV_back_2, fV_together_2, fV_member_2, gV_list_2, dV_list_2, nV_list_2, iV_listed_2, 1, (b_iV_changed_2), b_fV_member_2, (by first | exact b_nV_list_2 | with_reducible assumption | exact ⟨by omega, by omega⟩ | assumption), (b_iV_listed_2), (show 0 ≤ (1 : Int32).toInt ∧ (1 : Int32).toInt ≤ 1 from by decide), (by first | with_reducible assumption | omega | (rw [iI_t (by omega) (by omega)]; omega) | (have h8 : (-1 : Int32).toInt = -1 := (by decide); have h7 : (0 : Int32).toInt = 0 := (by decide); omega)), (show nV_list ≤ nV_list_2 from by omega), ⟨by omega, by omega⟩, rfl, hP, hD, hS, hl⟩
  · intro H locs ls stk
    refine fz_e12 ?_
    intro fV_now_j2 iV_doneFor_j2 iV_changed_j2 gV_fore_j2 gV_back_j2 fV_together_j2 fV_member_j2 gV_list_j2 dV_list_j2 nV_list_j2 iV_listed_j2 iV_listDone_j2
    refine fz_a13 ?_
    intro b_iV_changed_j2 b_fV_member_j2 b_nV_list_j2 b_iV_listed_j2 b_iV_listDone_j2 b_lst_j2 hgm0_j2 hzn9_7 hst9_8 hP hD hS hl
    have hzj := hzn9_7.1
    have hnj := hzn9_7.2
    clear hzn9_7
    subst hst9_8
    refine W.tight (cells2 := (nV_list_j2 / 4 - (nV_list / 4))) (slots2 := (2 * nV_list_j2 - (2 * nV_list))) (tg1 hzj hS.1) (tg2 hnj) ?_
    refine lv_aload_n hx hb dX7_listingSize_16 rfl (lv_at hl 0 rfl) ?_
    refine va_get (D := (dC, dI)) (ci := 7) (v := .int iV_listed_j2) (C := RX7) (T := TX7) (N := 20) hx hb hts iwsMX7_listingSize_in7 hown hK hP 0 rfl rfl 18 (by decide) (hts (.fieldLink RX7 166 "OptimaWorks$ValueDesk" "listed" "I") (by decide +kernel)) (fun _ h9 => h9) rfl dX7_listingSize_17 ?_
    refine W.known (fun hz9 hn9 => ?_)
    refine W.widen (k := 15001) (n := 140000) (by omega) (by omega) ?_
    exact W.iret (v := iV_listed_j2) hx hb hr (fun t9_ ht hW => ⟨⟨iV_listed_j2, (fV_now_j2, iV_doneFor_j2, iV_changed_j2, gV_fore_j2, gV_back_j2, fV_together_j2, fV_member_j2, gV_list_j2, dV_list_j2, nV_list_j2, iV_listed_j2, iV_listDone_j2), rfl, ⟨b_iV_changed_j2, b_fV_member_j2, (by (try dsimp only); exact (by first | exact b_nV_list_j2 | with_reducible assumption | exact ⟨by omega, by omega⟩ | assumption)), b_iV_listed_j2, b_iV_listDone_j2, (by (try dsimp only); exact (by first | with_reducible assumption | omega | (rw [iI_t (by omega) (by omega)]; omega) | (have h8 : (-1 : Int32).toInt = -1 := (by decide); have h7 : (0 : Int32).toInt = 0 := (by decide); omega))), (b_iV_listed_j2), (by (try dsimp only); omega), (by (try dsimp only); omega)⟩, by rw [ht]; exact hP, hD, by rw [ht]; (try dsimp only); omega, by rw [ht]; (try dsimp only); omega⟩, hS.F ht⟩) hS.2.2 dX7_listingSize_20
theorem dX7_listedValue_0 : decode cX7_listedValue 0 = .ok (.aload_n 0, 1) := dk_42 (by decide +kernel)
theorem dX7_listedValue_1 : decode cX7_listedValue 1 = .ok (.iload_n 2, 1) := dk_28 (by decide +kernel)
theorem dX7_listedValue_2 : decode cX7_listedValue 2 = .ok (.invokevirtual 76, 3) := dk_182 (by decide +kernel)
theorem dX7_listedValue_5 : decode cX7_listedValue 5 = .ok (.ifCond .eq 15, 3) := dk_153 (by decide +kernel)
theorem dX7_listedValue_8 : decode cX7_listedValue 8 = .ok (.iload_n 1, 1) := dk_27 (by decide +kernel)
theorem dX7_listedValue_9 : decode cX7_listedValue 9 = .ok (.ifCond .lt 11, 3) := dk_155 (by decide +kernel)
theorem dX7_listedValue_12 : decode cX7_listedValue 12 = .ok (.iload_n 1, 1) := dk_27 (by decide +kernel)
theorem dX7_listedValue_13 : decode cX7_listedValue 13 = .ok (.aload_n 0, 1) := dk_42 (by decide +kernel)
theorem dX7_listedValue_14 : decode cX7_listedValue 14 = .ok (.invokevirtual 169, 3) := dk_182 (by decide +kernel)
theorem dX7_listedValue_17 : decode cX7_listedValue 17 = .ok (.if_icmp .lt 5, 3) := dk_161 (by decide +kernel)
theorem dX7_listedValue_20 : decode cX7_listedValue 20 = .ok (.iconst (-1), 1) := dk_2 (by decide +kernel)
theorem dX7_listedValue_21 : decode cX7_listedValue 21 = .ok (.ireturn, 1) := dk_172 (by decide +kernel)
theorem dX7_listedValue_22 : decode cX7_listedValue 22 = .ok (.aload_n 0, 1) := dk_42 (by decide +kernel)
theorem dX7_listedValue_23 : decode cX7_listedValue 23 = .ok (.getfield 56, 3) := dk_180 (by decide +kernel)
theorem dX7_listedValue_26 : decode cX7_listedValue 26 = .ok (.iload_n 1, 1) := dk_27 (by decide +kernel)
theorem dX7_listedValue_27 : decode cX7_listedValue 27 = .ok (.laload, 1) := dk_47 (by decide +kernel)
theorem dX7_listedValue_28 : decode cX7_listedValue 28 = .ok (.iconst 4, 1) := dk_7 (by decide +kernel)
theorem dX7_listedValue_29 : decode cX7_listedValue 29 = .ok (.iload_n 2, 1) := dk_28 (by decide +kernel)
theorem dX7_listedValue_30 : decode cX7_listedValue 30 = .ok (.imul, 1) := dk_104 (by decide +kernel)
theorem dX7_listedValue_31 : decode cX7_listedValue 31 = .ok (.lshr, 1) := dk_123 (by decide +kernel)
theorem dX7_listedValue_32 : decode cX7_listedValue 32 = .ok (.ldc2_w 173, 3) := dk_20 (by decide +kernel)
theorem dX7_listedValue_35 : decode cX7_listedValue 35 = .ok (.land, 1) := dk_127 (by decide +kernel)
theorem dX7_listedValue_36 : decode cX7_listedValue 36 = .ok (.l2i, 1) := dk_136 (by decide +kernel)
theorem dX7_listedValue_37 : decode cX7_listedValue 37 = .ok (.ireturn, 1) := dk_172 (by decide +kernel)
def wsMX7_listedValue : List Cond := .code yX7_listedValue cX7_listedValue 3 (some .int) :: ([.fieldLink RX7 56 "OptimaWorks$ValueDesk" "list" "[J", .constantLong RX7 173 15] ++ wsX70 ++ (wsV RX7 76 RX7 yX7_isHolder wsMX7_isHolder) ++ (wsV RX7 169 RX7 yX7_listingSize wsMX7_listingSize))
theorem iwsMX7_listedValue_in7 : ∀ w ∈ wsX70, w ∈ wsMX7_listedValue := fun _ h => List.mem_cons_of_mem _ (List.mem_append_left _ (List.mem_append_left _ (List.mem_append_right _ h)))
theorem gwsMX7_listedValue_0 : GoodIn wsMX7_listedValue (wsV RX7 76 RX7 yX7_isHolder wsMX7_isHolder) := goodIn_sub (fun _ h => List.mem_cons_of_mem _ (List.mem_append_left _ (List.mem_append_right _ h))) (gdV (by decide +kernel) gdwsMX7_isHolder)
theorem gwsMX7_listedValue_1 : GoodIn wsMX7_listedValue (wsV RX7 169 RX7 yX7_listingSize wsMX7_listingSize) := goodIn_sub (fun _ h => List.mem_cons_of_mem _ (List.mem_append_right _ h)) (gdV (by decide +kernel) gdwsMX7_listingSize)
theorem gdwsMX7_listedValue : wsMX7_listedValue.all goodWord = true := gdC rfl (gdA (gdA (gdA (by decide +kernel : ([.fieldLink RX7 56 "OptimaWorks$ValueDesk" "list" "[J", .constantLong RX7 173 15] : List Cond).all goodWord = true) gdwsX70) (gdV (by decide +kernel) gdwsMX7_isHolder)) (gdV (by decide +kernel) gdwsMX7_listingSize))
set_option maxHeartbeats 4000000 in
set_option maxRecDepth 100000 in
/-- a value that is listed -/
theorem m_X7_listedValue (l : Launch) (dC : Nat → ClassId) (dI : Nat → Nat → Nat) (hV : Nat → Nat) (aV : Nat → Nat) (kV : Nat → ClassId) (iV_holders : Int32) (iV_rules : Int32) (fV_pairs : Nat → Int32) (fV_domain : Nat → Int32) (fV_kind : Nat → Int32) (fV_a : Nat → Int32) (fV_b : Nat → Int32) (fV_c : Nat → Int32) (fV_rulePairs : Nat → Int32) (fV_lastHolder : Nat → Int32) (fV_now : Nat → Int32) (iV_doneFor : Int32) (iV_changed : Int32) (gV_fore : Nat → Int64) (gV_back : Nat → Int64) (fV_together : Nat → Int32) (fV_member : Nat → Int32) (gV_list : Nat → Int64) (dV_list : Nat) (nV_list : Nat) (iV_listed : Int32) (iV_listDone : Int32) (p1 : Int32) (p2 : Int32) (b_iV_holders : 0 ≤ iV_holders.toInt ∧ iV_holders.toInt ≤ 10) (b_iV_rules : 0 ≤ iV_rules.toInt ∧ iV_rules.toInt ≤ 12) (b_fV_kind : ∀ q : Nat, 0 ≤ (fV_kind q).toInt ∧ (fV_kind q).toInt ≤ 4) (b_iV_changed : 0 ≤ iV_changed.toInt ∧ iV_changed.toInt ≤ 1) (b_fV_member : ∀ q : Nat, (-1) ≤ (fV_member q).toInt ∧ (fV_member q).toInt ≤ 15) (b_nV_list : 0 ≤ nV_list ∧ nV_list ≤ 20000) (b_iV_listed : (-1) ≤ iV_listed.toInt ∧ iV_listed.toInt ≤ 5000) (b_iV_listDone : 0 ≤ iV_listDone.toInt ∧ iV_listDone.toInt ≤ 1) (b_RuV : RuV fV_kind fV_a fV_b fV_c fV_lastHolder) (b_lst : iV_listed.toInt ≤ ((nV_list : Nat) : Int)) (sz : Nat) : Met l yX7_listedValue wsMX7_listedValue ({ frames := 6, cells := 20001, slots := 180000, locals := 141 }) (va_Pc [.ref (hV 0), .int p1, .int p2] (fun U => U.heap.size = sz ∧ va_P (dC, dI) vwCl (WV hV aV kV iV_holders iV_rules fV_pairs fV_domain fV_kind fV_a fV_b fV_c fV_rulePairs fV_lastHolder fV_now iV_doneFor iV_changed gV_fore gV_back fV_together fV_member gV_list dV_list nV_list iV_listed iV_listDone) U.heap ∧ va_K (dC, dI) vwCl (tV kV) U ∧ va_D (fun _ => True) (WV hV aV kV iV_holders iV_rules fV_pairs fV_domain fV_kind fV_a fV_b fV_c fV_rulePairs fV_lastHolder fV_now iV_doneFor iV_changed gV_fore gV_back fV_together fV_member gV_list dV_list nV_list iV_listed iV_listDone))) (va_Qi (fun (r : Int32) (u : (Nat → Int32) × (Int32) × (Int32) × (Nat → Int64) × (Nat → Int64) × (Nat → Int32) × (Nat → Int32) × (Nat → Int64) × (Nat) × (Nat) × (Int32) × (Int32)) => (0 ≤ (u.2.2.1).toInt ∧ (u.2.2.1).toInt ≤ 1) ∧ (∀ q : Nat, (-1) ≤ ((u.2.2.2.2.2.2.1) q).toInt ∧ ((u.2.2.2.2.2.2.1) q).toInt ≤ 15) ∧ (0 ≤ (u.2.2.2.2.2.2.2.2.2.1) ∧ (u.2.2.2.2.2.2.2.2.2.1) ≤ 20000) ∧ ((-1) ≤ (u.2.2.2.2.2.2.2.2.2.2.1).toInt ∧ (u.2.2.2.2.2.2.2.2.2.2.1).toInt ≤ 5000) ∧ (0 ≤ (u.2.2.2.2.2.2.2.2.2.2.2).toInt ∧ (u.2.2.2.2.2.2.2.2.2.2.2).toInt ≤ 1) ∧ ((u.2.2.2.2.2.2.2.2.2.2.1).toInt ≤ (((u.2.2.2.2.2.2.2.2.2.1) : Nat) : Int)) ∧ (nV_list ≤ (u.2.2.2.2.2.2.2.2.2.1))) (fun (u : (Nat → Int32) × (Int32) × (Int32) × (Nat → Int64) × (Nat → Int64) × (Nat → Int32) × (Nat → Int32) × (Nat → Int64) × (Nat) × (Nat) × (Int32) × (Int32)) t => va_P (dC, dI) vwCl (WV hV aV kV iV_holders iV_rules fV_pairs fV_domain fV_kind fV_a fV_b fV_c fV_rulePairs fV_lastHolder (u.1) (u.2.1) (u.2.2.1) (u.2.2.2.1) (u.2.2.2.2.1) (u.2.2.2.2.2.1) (u.2.2.2.2.2.2.1) (u.2.2.2.2.2.2.2.1) (u.2.2.2.2.2.2.2.2.1) (u.2.2.2.2.2.2.2.2.2.1) (u.2.2.2.2.2.2.2.2.2.2.1) (u.2.2.2.2.2.2.2.2.2.2.2)) t.heap ∧ va_D (va_A (WV hV aV kV iV_holders iV_rules fV_pairs fV_domain fV_kind fV_a fV_b fV_c fV_rulePairs fV_lastHolder fV_now iV_doneFor iV_changed gV_fore gV_back fV_together fV_member gV_list dV_list nV_list iV_listed iV_listDone) sz) (WV hV aV kV iV_holders iV_rules fV_pairs fV_domain fV_kind fV_a fV_b fV_c fV_rulePairs fV_lastHolder (u.1) (u.2.1) (u.2.2.1) (u.2.2.2.1) (u.2.2.2.2.1) (u.2.2.2.2.2.1) (u.2.2.2.2.2.2.1) (u.2.2.2.2.2.2.2.1) (u.2.2.2.2.2.2.2.2.1) (u.2.2.2.2.2.2.2.2.2.1) (u.2.2.2.2.2.2.2.2.2.2.1) (u.2.2.2.2.2.2.2.2.2.2.2)) ∧ t.heap.size + (nV_list / 4) ≤ sz + ((u.2.2.2.2.2.2.2.2.2.1) / 4) ∧ nS sz t.heap + (2 * nV_list) ≤ (2 * (u.2.2.2.2.2.2.2.2.2.1))) (va_A (WV hV aV kV iV_holders iV_rules fV_pairs fV_domain fV_kind fV_a fV_b fV_c fV_rulePairs fV_lastHolder fV_now iV_doneFor iV_changed gV_fore gV_back fV_together fV_member gV_list dV_list nV_list iV_listed iV_listDone) sz)) 20001 180000 (va_A (WV hV aV kV iV_holders iV_rules fV_pairs fV_domain fV_kind fV_a fV_b fV_c fV_rulePairs fV_lastHolder fV_now iV_doneFor iV_changed gV_fore gV_back fV_together fV_member gV_list dV_list nV_list iV_listed iV_listDone) sz) := by
  refine Met.ofW (cc := cX7_listedValue) (maxL := 3) (ret := (some .int)) (by decide) rfl ?_
  intro p e s m args below meth c s₁ B hml hv
  obtain ⟨rfl, hsz, hP, hK, hD0⟩ := hv
  have hx := B.exec
  have hb := B.bytes
  have hr := B.returns
  have hts := atoms_spec (ws := wsMX7_listedValue) B.pre
  have hown : s.vm.findClass RX7 = some m.cls := findClass_of_methodNamed B.named
  have hlocks := B.notSynchronized
  subst hsz
  have hD := hD0.self (sz := s.heap.size)
  generalize hAe : va_A (WV hV aV kV iV_holders iV_rules fV_pairs fV_domain fV_kind fV_a fV_b fV_c fV_rulePairs fV_lastHolder fV_now iV_doneFor iV_changed gV_fore gV_back fV_together fV_member gV_list dV_list nV_list iV_listed iV_listDone) s.heap.size = A at hD ⊢
  have hA : ∀ q : Nat, s.heap.size ≤ q → A q := fun q h => by rw [← hAe]; exact Or.inr h
  have hS : va_S A s.heap s.heap [] := va_S.rf
  have hl := lv_entry ([.ref (hV 0), .int p1, .int p2]) (n := 3) (Nat.le_of_ble_eq_true rfl)
  rw [lg_entry_eq]
  generalize (lg_sl ([.ref (hV 0), .int p1, .int p2]) ++ List.replicate (3 - (lg_sl ([.ref (hV 0), .int p1, .int p2])).length) Slot.unset).toArray = ls at hl ⊢
  have hl : lv_has ls 3 [(0, .ref (hV 0)), (1, .int p1), (2, .int p2)] := hl
  refine W.widen (k := (nV_list / 4 - (nV_list / 4))) (n := (2 * nV_list - (2 * nV_list))) (Nat.zero_le _) (Nat.zero_le _) ?_
  refine lv_aload_n hx hb dX7_listedValue_0 rfl (lv_at hl 0 rfl) ?_
  refine lv_iload_n hx hb dX7_listedValue_1 rfl (lv_at hl 2 rfl) ?_
  have hFc := allFree hD hS hA
  refine va_calli (va_runV (As := [.int p2]) (rest := []) ⟨hx, hb, hml, hown, hts⟩ (m_X7_isHolder l dC dI hV aV kV iV_holders iV_rules fV_pairs fV_domain fV_kind fV_a fV_b fV_c fV_rulePairs fV_lastHolder fV_now iV_doneFor iV_changed gV_fore gV_back fV_together fV_member gV_list dV_list nV_list iV_listed iV_listDone p2 (b_iV_holders) (b_iV_rules) b_fV_kind (b_iV_changed) b_fV_member (by first | exact b_nV_list | with_reducible assumption | exact ⟨by omega, by omega⟩ | assumption) (b_iV_listed) (b_iV_listDone) (by first | with_reducible assumption | omega | assumption) (by first | with_reducible assumption | omega | (rw [iI_t (by omega) (by omega)]; omega) | (have h8 : (-1 : Int32).toInt = -1 := (by decide); have h7 : (0 : Int32).toInt = 0 := (by decide); omega)) s.heap.size) (cwV 1 hts gwsMX7_listedValue_0 rfl rfl rfl (by decide +kernel) ⟨by first | decide +kernel | (dsimp only [headSpec] <;> omega), by first | decide +kernel | (dsimp only [headSpec] <;> omega)⟩) (fz_pre (va_recv hK hP (ci := 7) (q0 := 0) rfl rfl) hP hK hD) rfl rfl hl.1 rfl (lv_room (Nat.le_of_ble_eq_true rfl)) dX7_listedValue_2 ⟨by first | decide +kernel | (dsimp only [headSpec] <;> omega), by first | decide +kernel | (dsimp only [headSpec] <;> omega)⟩) hS (fun q _ h => hFc q h) hFc (fun r1 u t9_ H locs ht hvm hw9 hB9 hz1 hk1 hS => ?_)
  revert hw9
  refine fz_a3 ?_
  intro b_r1 f1_0 f1_1
  have hP : va_P (dC, dI) vwCl (WV hV aV kV iV_holders iV_rules fV_pairs fV_domain fV_kind fV_a fV_b fV_c fV_rulePairs fV_lastHolder fV_now iV_doneFor iV_changed gV_fore gV_back fV_together fV_member gV_list dV_list nV_list iV_listed iV_listDone) H := fz_P ht hB9.1
  have hD := fz_sd hP (hB9.2.weaken (fun _ q _ h => hFc q.1 h)) rfl
  refine lv_if_eq (tgt := 20) hx hb dX7_listedValue_5 (by decide) (fun c_5 => ?_) (fun c_5 => ?_)
  · have t_5 : r1.toInt = 0 := toI_eq c_5 rfl (by decide : (0 : Int32).toInt = 0)
    refine lv_iconst (v := (-1)) hx hb dX7_listedValue_20 (by decide) ?_
    refine W.known (fun hz9 hn9 => ?_)
    refine W.widen (k := 20001) (n := 180000) (by omega) (by omega) ?_
    exact W.iret (v := (-1)) hx hb hr (fun t9_ ht hW => ⟨⟨((-1) : Int32), (fV_now, iV_doneFor, iV_changed, gV_fore, gV_back, fV_together, fV_member, gV_list, dV_list, nV_list, iV_listed, iV_listDone), rfl, ⟨b_iV_changed, b_fV_member, (by (try dsimp only); exact (by first | exact b_nV_list | with_reducible assumption | exact ⟨by omega, by omega⟩ | assumption)), b_iV_listed, b_iV_listDone, (by (try dsimp only); exact (by first | with_reducible assumption | omega | (rw [iI_t (by omega) (by omega)]; omega) | (have h8 : (-1 : Int32).toInt = -1 := (by decide); have h7 : (0 : Int32).toInt = 0 := (by decide); omega))), (by (try dsimp only); omega)⟩, by rw [ht]; exact hP, hD, by rw [ht]; (try dsimp only); omega, by rw [ht]; (try dsimp only); omega⟩, hS.F ht⟩) hS.2.2 dX7_listedValue_21
  · have t_5 : ¬ r1.toInt = 0 := toI_neq c_5 rfl (by decide : (0 : Int32).toInt = 0)
    refine lv_iload_n hx hb dX7_listedValue_8 rfl (lv_at hl 1 rfl) ?_
    refine lv_if_lt (tgt := 20) hx hb dX7_listedValue_9 (by decide) (fun c_9 => ?_) (fun c_9 => ?_)
    · have t_9 : p1.toInt < 0 := toI_lt c_9 rfl (by decide : (0 : Int32).toInt = 0)
      refine lv_iconst (v := (-1)) hx hb dX7_listedValue_20 (by decide) ?_
      refine W.known (fun hz9 hn9 => ?_)
      refine W.widen (k := 20001) (n := 180000) (by omega) (by omega) ?_
      exact W.iret (v := (-1)) hx hb hr (fun t9_ ht hW => ⟨⟨((-1) : Int32), (fV_now, iV_doneFor, iV_changed, gV_fore, gV_back, fV_together, fV_member, gV_list, dV_list, nV_list, iV_listed, iV_listDone), rfl, ⟨b_iV_changed, b_fV_member, (by (try dsimp only); exact (by first | exact b_nV_list | with_reducible assumption | exact ⟨by omega, by omega⟩ | assumption)), b_iV_listed, b_iV_listDone, (by (try dsimp only); exact (by first | with_reducible assumption | omega | (rw [iI_t (by omega) (by omega)]; omega) | (have h8 : (-1 : Int32).toInt = -1 := (by decide); have h7 : (0 : Int32).toInt = 0 := (by decide); omega))), (by (try dsimp only); omega)⟩, by rw [ht]; exact hP, hD, by rw [ht]; (try dsimp only); omega, by rw [ht]; (try dsimp only); omega⟩, hS.F ht⟩) hS.2.2 dX7_listedValue_21
    · have t_9 : ¬ p1.toInt < 0 := toI_nlt c_9 rfl (by decide : (0 : Int32).toInt = 0)
      refine lv_iload_n hx hb dX7_listedValue_12 rfl (lv_at hl 1 rfl) ?_
      refine lv_aload_n hx hb dX7_listedValue_13 rfl (lv_at hl 0 rfl) ?_
      refine W.known (fun hz0 hn0 => ?_)
      have hS0 := hS.1
      have hFc := allFree hD hS hA
      refine va_calli (va_runV (As := []) (rest := [.int p1]) ⟨hx, hb, hml, hown, hts⟩ (Met.sI (m_X7_listingSize l dC dI hV aV kV iV_holders iV_rules fV_pairs fV_domain fV_kind fV_a fV_b fV_c fV_rulePairs fV_lastHolder fV_now iV_doneFor iV_changed gV_fore gV_back fV_together fV_member gV_list dV_list nV_list iV_listed iV_listDone (b_iV_holders) (b_iV_rules) b_fV_kind (b_iV_changed) b_fV_member (by first | exact b_nV_list | with_reducible assumption | exact ⟨by omega, by omega⟩ | assumption) (b_iV_listed) (b_iV_listDone) (by first | with_reducible assumption | omega | assumption) (by first | with_reducible assumption | omega | (rw [iI_t (by omega) (by omega)]; omega) | (have h8 : (-1 : Int32).toInt = -1 := (by decide); have h7 : (0 : Int32).toInt = 0 := (by decide); omega)) H.size) H) (cwV 0 hts gwsMX7_listedValue_1 rfl rfl rfl (by decide +kernel) ⟨by first | decide +kernel | (dsimp only [headSpec] <;> omega), by first | decide +kernel | (dsimp only [headSpec] <;> omega)⟩) ⟨fun a U g mk q => by obtain ⟨q0, qh, q1, qP, qK, qD⟩ := q; exact ⟨q0, qh, q1, qP, va_K.moved (u := U) (U := U.calling g mk a) (Vm.Alike.refl U.vm) qK, qD⟩, va_recv hK hP (ci := 7) (q0 := 0) rfl rfl, fun U hU9 hW => ⟨rfl, hU9, by rw [hU9], by rw [hU9]; exact hP, va_K.moved hW.alike hK, hD.weaken (fun _ _ _ _ => trivial)⟩⟩ rfl rfl hl.1 rfl (lv_room (Nat.le_of_ble_eq_true rfl)) dX7_listedValue_14 ⟨by first | decide +kernel | (dsimp only [headSpec] <;> omega), by first | decide +kernel | (dsimp only [headSpec] <;> omega)⟩) hS (fun q _ h => hFc q h) hFc (fun r2 u t9_ H locs ht hvm hw9 hB9 hz1 hk1 hS => ?_)
      revert u hw9 hB9
      refine fz_p12 ?_
      intro fV_now_2 iV_doneFor_2 iV_changed_2 gV_fore_2 gV_back_2 fV_together_2 fV_member_2 gV_list_2 dV_list_2 nV_list_2 iV_listed_2 iV_listDone_2 hw9 hB9
      try dsimp only at hw9 hB9
      revert hw9
      refine fz_a9 ?_
      intro b_iV_changed_2 b_fV_member_2 b_nV_list_2 b_iV_listed_2 b_iV_listDone_2 b_lst_2 b_r2 f2_0 f2_1
      have hg1 := hB9.1.2.2.1
      rw [ht] at hg1
      have hg2 := hB9.1.2.2.2
      rw [ht] at hg2
      have hSz := hB9.2
      rw [ht] at hSz
      have hP : va_P (dC, dI) vwCl (WV hV aV kV iV_holders iV_rules fV_pairs fV_domain fV_kind fV_a fV_b fV_c fV_rulePairs fV_lastHolder fV_now_2 iV_doneFor_2 iV_changed_2 gV_fore_2 gV_back_2 fV_together_2 fV_member_2 gV_list_2 dV_list_2 nV_list_2 iV_listed_2 iV_listDone_2) H := fz_P ht hB9.1.1
      have hD := fz_sd hP (hB9.1.2.1.weaken (fun _ q _ h => hFc q.1 h)) rfl
      have hz9 : H.size ≤ s.heap.size + (nV_list_2 / 4 - (nV_list / 4)) := by (try dsimp only at hg1); omega
      have hn9 : nS s.heap.size H ≤ (2 * nV_list_2 - (2 * nV_list)) := by rw [hSz.n hS0]; (try dsimp only at hg2); omega
      refine W.tight (cells2 := (nV_list_2 / 4 - (nV_list / 4))) (slots2 := (2 * nV_list_2 - (2 * nV_list))) hz9 hn9 ?_
      clear hz9 hn9 hz0 hn0 hS0 hSz hg1 hg2
      refine lv_icmp_lt (tgt := 22) hx hb dX7_listedValue_17 (by decide) (fun c_17 => ?_) (fun c_17 => ?_)
      · have t_17 : p1.toInt < r2.toInt := toI_lt c_17 rfl rfl
        refine lv_aload_n hx hb dX7_listedValue_22 rfl (lv_at hl 0 rfl) ?_
        refine va_get (D := (dC, dI)) (ci := 7) (v := .ref dV_list_2) (C := RX7) (T := TX7) (N := 20) hx hb hts iwsMX7_listedValue_in7 hown hK hP 0 rfl rfl 17 (by decide) (hts (.fieldLink RX7 56 "OptimaWorks$ValueDesk" "list" "[J") (by decide +kernel)) (fun _ h9 => h9) rfl dX7_listedValue_23 ?_
        refine lv_iload_n hx hb dX7_listedValue_26 rfl (lv_at hl 1 rfl) ?_
        refine va_lald (cA := kV 13) (n := nV_list_2) (f := gV_list_2) hx hb hK hP 14 13 rfl rfl (vp_in_iff.mpr ⟨(by omega), (by omega)⟩) dX7_listedValue_27 ?_
        refine lv_topl (fun v3 hv3 => ?_)
        clear hv3
        refine lv_iconst (v := 4) hx hb dX7_listedValue_28 (by decide) ?_
        refine lv_iload_n hx hb dX7_listedValue_29 rfl (lv_at hl 2 rfl) ?_
        refine lv_imul hx hb dX7_listedValue_30 ?_
        refine lv_topi (fun y4 hy4 => ?_)
        obtain rfl : (iI (4 * p2.toInt)) = y4 := (hy4.trans (iI_mul2 (by decide : (4 : Int32) = iI 4) (iI_of _))).symm
        refine lv_lshr hx hb dX7_listedValue_31 rfl ?_
        refine lv_topl (fun v5 hv5 => ?_)
        clear hv5
        refine lv_ldc2 (v := 15) hx hb hown (hts (.constantLong RX7 173 15) (by decide +kernel)) dX7_listedValue_32 ?_
        refine lv_land hx hb dX7_listedValue_35 ?_
        refine lv_topl (fun v6 hv6 => ?_)
        clear hv6
        refine lv_l2i hx hb dX7_listedValue_36 rfl ?_
        refine lv_topi (fun v7 hv7 => ?_)
        clear hv7
        refine W.known (fun hz9 hn9 => ?_)
        refine W.widen (k := 20001) (n := 180000) (by omega) (by omega) ?_
        exact W.iret (v := v7) hx hb hr (fun t9_ ht hW => ⟨⟨v7, (fV_now_2, iV_doneFor_2, iV_changed_2, gV_fore_2, gV_back_2, fV_together_2, fV_member_2, gV_list_2, dV_list_2, nV_list_2, iV_listed_2, iV_listDone_2), rfl, ⟨b_iV_changed_2, b_fV_member_2, (by (try dsimp only); exact (by first | exact b_nV_list_2 | with_reducible assumption | exact ⟨by omega, by omega⟩ | assumption)), b_iV_listed_2, b_iV_listDone_2, (by (try dsimp only); exact (by first | with_reducible assumption | omega | (rw [iI_t (by omega) (by omega)]; omega) | (have h8 : (-1 : Int32).toInt = -1 := (by decide); have h7 : (0 : Int32).toInt = 0 := (by decide); omega))), (by (try dsimp only); omega)⟩, by rw [ht]; exact hP, hD, by rw [ht]; (try dsimp only); omega, by rw [ht]; (try dsimp only); omega⟩, hS.F ht⟩) hS.2.2 dX7_listedValue_37
      · have t_17 : ¬ p1.toInt < r2.toInt := toI_nlt c_17 rfl rfl
        refine lv_iconst (v := (-1)) hx hb dX7_listedValue_20 (by decide) ?_
        refine W.known (fun hz9 hn9 => ?_)
        refine W.widen (k := 20001) (n := 180000) (by omega) (by omega) ?_
        exact W.iret (v := (-1)) hx hb hr (fun t9_ ht hW => ⟨⟨((-1) : Int32), (fV_now_2, iV_doneFor_2, iV_changed_2, gV_fore_2, gV_back_2, fV_together_2, fV_member_2, gV_list_2, dV_list_2, nV_list_2, iV_listed_2, iV_listDone_2), rfl, ⟨b_iV_changed_2, b_fV_member_2, (by (try dsimp only); exact (by first | exact b_nV_list_2 | with_reducible assumption | exact ⟨by omega, by omega⟩ | assumption)), b_iV_listed_2, b_iV_listDone_2, (by (try dsimp only); exact (by first | with_reducible assumption | omega | (rw [iI_t (by omega) (by omega)]; omega) | (have h8 : (-1 : Int32).toInt = -1 := (by decide); have h7 : (0 : Int32).toInt = 0 := (by decide); omega))), (by (try dsimp only); omega)⟩, by rw [ht]; exact hP, hD, by rw [ht]; (try dsimp only); omega, by rw [ht]; (try dsimp only); omega⟩, hS.F ht⟩) hS.2.2 dX7_listedValue_21
end
section
theorem dX4_makeRoom_0 : decode cX4_makeRoom 0 = .ok (.bipush 7, 2) := dk_16 (by decide +kernel)
theorem dX4_makeRoom_2 : decode cX4_makeRoom 2 = .ok (.iconst 2, 1) := dk_5 (by decide +kernel)
theorem dX4_makeRoom_3 : decode cX4_makeRoom 3 = .ok (.aload_n 0, 1) := dk_42 (by decide +kernel)
theorem dX4_makeRoom_4 : decode cX4_makeRoom 4 = .ok (.getfield 19, 3) := dk_180 (by decide +kernel)
theorem dX4_makeRoom_7 : decode cX4_makeRoom 7 = .ok (.getfield 39, 3) := dk_180 (by decide +kernel)
theorem dX4_makeRoom_10 : decode cX4_makeRoom 10 = .ok (.imul, 1) := dk_104 (by decide +kernel)
theorem dX4_makeRoom_11 : decode cX4_makeRoom 11 = .ok (.bipush 16, 2) := dk_16 (by decide +kernel)
theorem dX4_makeRoom_13 : decode cX4_makeRoom 13 = .ok (.iadd, 1) := dk_96 (by decide +kernel)
theorem dX4_makeRoom_14 : decode cX4_makeRoom 14 = .ok (.imul, 1) := dk_104 (by decide +kernel)
theorem dX4_makeRoom_15 : decode cX4_makeRoom 15 = .ok (.istore_n 1, 1) := dk_60 (by decide +kernel)
theorem dX4_makeRoom_16 : decode cX4_makeRoom 16 = .ok (.aload_n 0, 1) := dk_42 (by decide +kernel)
theorem dX4_makeRoom_17 : decode cX4_makeRoom 17 = .ok (.getfield 11, 3) := dk_180 (by decide +kernel)
theorem dX4_makeRoom_20 : decode cX4_makeRoom 20 = .ok (.arraylength, 1) := dk_190 (by decide +kernel)
theorem dX4_makeRoom_21 : decode cX4_makeRoom 21 = .ok (.iload_n 1, 1) := dk_27 (by decide +kernel)
theorem dX4_makeRoom_22 : decode cX4_makeRoom 22 = .ok (.if_icmp .ge 20, 3) := dk_162 (by decide +kernel)
theorem dX4_makeRoom_25 : decode cX4_makeRoom 25 = .ok (.aload_n 0, 1) := dk_42 (by decide +kernel)
theorem dX4_makeRoom_26 : decode cX4_makeRoom 26 = .ok (.iload_n 1, 1) := dk_27 (by decide +kernel)
theorem dX4_makeRoom_27 : decode cX4_makeRoom 27 = .ok (.iconst 2, 1) := dk_5 (by decide +kernel)
theorem dX4_makeRoom_28 : decode cX4_makeRoom 28 = .ok (.aload_n 0, 1) := dk_42 (by decide +kernel)
theorem dX4_makeRoom_29 : decode cX4_makeRoom 29 = .ok (.getfield 11, 3) := dk_180 (by decide +kernel)
theorem dX4_makeRoom_32 : decode cX4_makeRoom 32 = .ok (.arraylength, 1) := dk_190 (by decide +kernel)
theorem dX4_makeRoom_33 : decode cX4_makeRoom 33 = .ok (.imul, 1) := dk_104 (by decide +kernel)
theorem dX4_makeRoom_34 : decode cX4_makeRoom 34 = .ok (.invokestatic 97, 3) := dk_184 (by decide +kernel)
theorem dX4_makeRoom_37 : decode cX4_makeRoom 37 = .ok (.newarray .int, 2) := by decide +kernel
theorem dX4_makeRoom_39 : decode cX4_makeRoom 39 = .ok (.putfield 11, 3) := dk_181 (by decide +kernel)
theorem dX4_makeRoom_42 : decode cX4_makeRoom 42 = .ok (.return_, 1) := dk_177 (by decide +kernel)
def wsMX4_makeRoom : List Cond := .code yX4_makeRoom cX4_makeRoom 2 none :: ([.fieldLink RX4 19 "OptimaWorks$Reader" "words" "LOptimaWorks$Words;", .fieldLink RX4 39 "OptimaWorks$Words" "length" "I", .fieldLink RX4 11 "OptimaWorks$Reader" "tree" "[I", .methodLink RX4 97 Lib.Math.max.name, .static Lib.Math.max.name, .initialized "java/lang/Math", .code Lib.Math.max.name Lib.Math.max.code 2 (some .int), .arrayClass .int] ++ wsX40 ++ wsX90)
theorem iwsMX4_makeRoom_in4 : ∀ w ∈ wsX40, w ∈ wsMX4_makeRoom := fun _ h => List.mem_cons_of_mem _ (List.mem_append_left _ (List.mem_append_right _ h))
theorem iwsMX4_makeRoom_in9 : ∀ w ∈ wsX90, w ∈ wsMX4_makeRoom := fun _ h => List.mem_cons_of_mem _ (List.mem_append_right _ h)
theorem gdwsMX4_makeRoom : wsMX4_makeRoom.all goodWord = true := gdC rfl (gdA (gdA (by decide +kernel : ([.fieldLink RX4 19 "OptimaWorks$Reader" "words" "LOptimaWorks$Words;", .fieldLink RX4 39 "OptimaWorks$Words" "length" "I", .fieldLink RX4 11 "OptimaWorks$Reader" "tree" "[I", .methodLink RX4 97 Lib.Math.max.name, .static Lib.Math.max.name, .initialized "java/lang/Math", .code Lib.Math.max.name Lib.Math.max.code 2 (some .int), .arrayClass .int] : List Cond).all goodWord = true) gdwsX40) gdwsX90)
theorem hm_m_X4_makeRoom_0 : (.fieldLink RX4 11 "OptimaWorks$Reader" "tree" "[I" : Cond) ∈ wsMX4_makeRoom := by decide +kernel
set_option maxHeartbeats 4000000 in
set_option maxRecDepth 100000 in
/-- room for the tree -/
theorem m_X4_makeRoom (l : Launch) (dC : Nat → ClassId) (dI : Nat → Nat → Nat) (hJ : Nat → Nat) (aJ : Nat → Nat) (kJ : Nat → ClassId) (hT : Nat → Nat) (hM : Nat → Nat) (hL : Nat → Nat) (iJ_used : Int32) (iJ_depth : Int32) (jJ_ownName : Int64) (gJ_binder : Nat → Int64) (iJ_binders : Int32) (iJ_firstSet : Int32) (iJ_secondSet : Int32) (hF : Nat → Nat) (aF : Nat → Nat) (kF : Nat → ClassId) (dF_tree : Nat) (nF_tree : Nat) (fF_tree : Nat → Int32) (aT : Nat → Nat) (kT : Nat → ClassId) (fT_tape : Nat → Int32) (dT_tape : Nat) (nT_tape : Nat) (iT_length : Int32) (iT_fault : Int32) (iT_place : Int32) (iT_kind : Int32) (iT_at : Int32) (iT_number : Int32) (jT_name : Int64) (iT_next : Int32) (b_iJ_used : 0 ≤ iJ_used.toInt ∧ iJ_used.toInt ≤ 72200) (b_iJ_depth : 0 ≤ iJ_depth.toInt ∧ iJ_depth.toInt ≤ 25) (b_iJ_binders : 0 ≤ iJ_binders.toInt ∧ iJ_binders.toInt ≤ 64) (b_iJ_firstSet : (-1) ≤ iJ_firstSet.toInt ∧ iJ_firstSet.toInt ≤ 39) (b_iJ_secondSet : (-1) ≤ iJ_secondSet.toInt ∧ iJ_secondSet.toInt ≤ 39) (b_nF_tree : 7 ≤ nF_tree ∧ nF_tree ≤ 72200) (b_fT_tape : ∀ q : Nat, (-128) ≤ (fT_tape q).toInt ∧ (fT_tape q).toInt ≤ 127) (b_nT_tape : 64 ≤ nT_tape ∧ nT_tape ≤ 2560) (b_iT_length : 0 ≤ iT_length.toInt ∧ iT_length.toInt ≤ 1280) (b_iT_at : 0 ≤ iT_at.toInt ∧ iT_at.toInt ≤ 1282) (b_iT_number : 0 ≤ iT_number.toInt ∧ iT_number.toInt ≤ 999999) (b_iT_next : 0 ≤ iT_next.toInt ∧ iT_next.toInt ≤ 1282) (b_len : iT_length.toInt ≤ ((nT_tape : Nat) : Int)) (sz : Nat) : Met l yX4_makeRoom wsMX4_makeRoom ({ frames := 1, cells := 9027, slots := 288800, locals := 14 }) (va_Pc [.ref (hJ 0)] (fun U => U.heap.size = sz ∧ va_P (dC, dI) vwCl (WJ hJ aJ kJ hT hM hL (.ref dF_tree) iJ_used iJ_depth jJ_ownName gJ_binder iJ_binders iJ_firstSet iJ_secondSet ++ (WF hF aF kF dF_tree nF_tree fF_tree ++ (WT hT aT kT fT_tape dT_tape nT_tape iT_length iT_fault iT_place iT_kind iT_at iT_number jT_name iT_next))) U.heap ∧ va_K (dC, dI) vwCl (tJ kJ ++ (tF kF ++ (tT kT))) U ∧ va_D (fun _ => True) (WJ hJ aJ kJ hT hM hL (.ref dF_tree) iJ_used iJ_depth jJ_ownName gJ_binder iJ_binders iJ_firstSet iJ_secondSet ++ (WF hF aF kF dF_tree nF_tree fF_tree ++ (WT hT aT kT fT_tape dT_tape nT_tape iT_length iT_fault iT_place iT_kind iT_at iT_number jT_name iT_next))))) (va_Qv (fun (u : (Nat) × (Nat) × (Nat → Int32)) => (7 ≤ (u.2.1) ∧ (u.2.1) ≤ 72200) ∧ (nF_tree ≤ (u.2.1)) ∧ (7 * (2 * iT_length.toInt + 16) ≤ (((u.2.1) : Nat) : Int))) (fun (u : (Nat) × (Nat) × (Nat → Int32)) t => va_P (dC, dI) vwCl (WJ hJ aJ kJ hT hM hL (.ref (u.1)) iJ_used iJ_depth jJ_ownName gJ_binder iJ_binders iJ_firstSet iJ_secondSet ++ (WF hF aF kF (u.1) (u.2.1) (u.2.2) ++ (WT hT aT kT fT_tape dT_tape nT_tape iT_length iT_fault iT_place iT_kind iT_at iT_number jT_name iT_next))) t.heap ∧ va_D (va_A (WJ hJ aJ kJ hT hM hL (.ref dF_tree) iJ_used iJ_depth jJ_ownName gJ_binder iJ_binders iJ_firstSet iJ_secondSet ++ (WF hF aF kF dF_tree nF_tree fF_tree ++ (WT hT aT kT fT_tape dT_tape nT_tape iT_length iT_fault iT_place iT_kind iT_at iT_number jT_name iT_next))) sz) (WJ hJ aJ kJ hT hM hL (.ref (u.1)) iJ_used iJ_depth jJ_ownName gJ_binder iJ_binders iJ_firstSet iJ_secondSet ++ (WF hF aF kF (u.1) (u.2.1) (u.2.2) ++ (WT hT aT kT fT_tape dT_tape nT_tape iT_length iT_fault iT_place iT_kind iT_at iT_number jT_name iT_next))) ∧ t.heap.size + (nF_tree / 8) ≤ sz + ((u.2.1) / 8) ∧ nS sz t.heap + (2 * nF_tree) ≤ (2 * (u.2.1))) (va_A (WJ hJ aJ kJ hT hM hL (.ref dF_tree) iJ_used iJ_depth jJ_ownName gJ_binder iJ_binders iJ_firstSet iJ_secondSet ++ (WF hF aF kF dF_tree nF_tree fF_tree ++ (WT hT aT kT fT_tape dT_tape nT_tape iT_length iT_fault iT_place iT_kind iT_at iT_number jT_name iT_next))) sz)) 9027 288800 (va_A (WJ hJ aJ kJ hT hM hL (.ref dF_tree) iJ_used iJ_depth jJ_ownName gJ_binder iJ_binders iJ_firstSet iJ_secondSet ++ (WF hF aF kF dF_tree nF_tree fF_tree ++ (WT hT aT kT fT_tape dT_tape nT_tape iT_length iT_fault iT_place iT_kind iT_at iT_number jT_name iT_next))) sz) := by
  refine Met.ofW (cc := cX4_makeRoom) (maxL := 2) (ret := none) (by decide) rfl ?_
  intro p e s m args below meth c s₁ B hml hv
  obtain ⟨rfl, hsz, hP, hK, hD0⟩ := hv
  have hx := B.exec
  have hb := B.bytes
  have hr := B.returns
  have hts := atoms_spec (ws := wsMX4_makeRoom) B.pre
  have hown : s.vm.findClass RX4 = some m.cls := findClass_of_methodNamed B.named
  have hlocks := B.notSynchronized
  subst hsz
  have hD := hD0.self (sz := s.heap.size)
  generalize hAe : va_A (WJ hJ aJ kJ hT hM hL (.ref dF_tree) iJ_used iJ_depth jJ_ownName gJ_binder iJ_binders iJ_firstSet iJ_secondSet ++ (WF hF aF kF dF_tree nF_tree fF_tree ++ (WT hT aT kT fT_tape dT_tape nT_tape iT_length iT_fault iT_place iT_kind iT_at iT_number jT_name iT_next))) s.heap.size = A at hD ⊢
  have hA : ∀ q : Nat, s.heap.size ≤ q → A q := fun q h => by rw [← hAe]; exact Or.inr h
  have hS : va_S A s.heap s.heap [] := va_S.rf
  have hl := lv_entry ([.ref (hJ 0)]) (n := 2) (Nat.le_of_ble_eq_true rfl)
  rw [lg_entry_eq]
  generalize (lg_sl ([.ref (hJ 0)]) ++ List.replicate (2 - (lg_sl ([.ref (hJ 0)])).length) Slot.unset).toArray = ls at hl ⊢
  have hl : lv_has ls 2 [(0, .ref (hJ 0))] := hl
  refine W.widen (k := (nF_tree / 8 - (nF_tree / 8))) (n := (2 * nF_tree - (2 * nF_tree))) (Nat.zero_le _) (Nat.zero_le _) ?_
  refine lv_bipush (v := 7) hx hb dX4_makeRoom_0 (by decide) ?_
  refine lv_iconst (v := 2) hx hb dX4_makeRoom_2 (by decide) ?_
  refine lv_aload_n hx hb dX4_makeRoom_3 rfl (lv_at hl 0 rfl) ?_
  refine va_get (D := (dC, dI)) (ci := 4) (v := .ref (hT 0)) (C := RX4) (T := TX4) (N := 11) hx hb hts iwsMX4_makeRoom_in4 hown hK hP 0 rfl rfl 0 (by decide) (hts (.fieldLink RX4 19 "OptimaWorks$Reader" "words" "LOptimaWorks$Words;") (by decide +kernel)) (fun _ h9 => h9) rfl dX4_makeRoom_4 ?_
  refine va_get (D := (dC, dI)) (ci := 9) (v := .int iT_length) (C := RX9) (T := TX9) (N := 9) hx hb hts iwsMX4_makeRoom_in9 hown hK hP 3 rfl rfl 1 (by decide) (hts (.fieldLink RX4 39 "OptimaWorks$Words" "length" "I") (by decide +kernel)) (fun _ h9 => h9) rfl dX4_makeRoom_7 ?_
  refine lv_imul hx hb dX4_makeRoom_10 ?_
  refine lv_topi (fun y1 hy1 => ?_)
  obtain rfl : (iI (2 * iT_length.toInt)) = y1 := (hy1.trans (iI_mul2 (by decide : (2 : Int32) = iI 2) (iI_of _))).symm
  refine lv_bipush (v := 16) hx hb dX4_makeRoom_11 (by decide) ?_
  refine lv_iadd hx hb dX4_makeRoom_13 ?_
  refine lv_topi (fun y2 hy2 => ?_)
  obtain rfl : (iI ((2 * iT_length.toInt) + 16)) = y2 := (hy2.trans (iI_add2 rfl (by decide : (16 : Int32) = iI 16))).symm
  refine lv_imul hx hb dX4_makeRoom_14 ?_
  refine lv_topi (fun y3 hy3 => ?_)
  obtain rfl : (iI (7 * ((2 * iT_length.toInt) + 16))) = y3 := (hy3.trans (iI_mul2 (by decide : (7 : Int32) = iI 7) rfl)).symm
  refine lv_istore_n hx hb dX4_makeRoom_15 rfl hl (by decide) rfl (fun ls (hl : lv_has ls _ ([(1, .int (iI (7 * ((2 * iT_length.toInt) + 16)))), (0, .ref (hJ 0))])) => ?_)
  refine lv_aload_n hx hb dX4_makeRoom_16 rfl (lv_at hl 1 rfl) ?_
  refine va_get (D := (dC, dI)) (ci := 4) (v := .ref dF_tree) (C := RX4) (T := TX4) (N := 11) hx hb hts iwsMX4_makeRoom_in4 hown hK hP 0 rfl rfl 3 (by decide) (hts _ hm_m_X4_makeRoom_0) (fun _ h9 => h9) rfl dX4_makeRoom_17 ?_
  refine va_alen hx hb hK hP 2 1 rfl rfl (v := (iI ((nF_tree : Nat) : Int))) (iI_nat _) dX4_makeRoom_20 ?_
  refine lv_iload_n hx hb dX4_makeRoom_21 rfl (lv_at hl 0 rfl) ?_
  refine W.known (fun hzk hnk => ?_)
  refine W.widen (k := 9025) (n := 144400) (by omega) (by omega) ?_
  refine W.cut (pc := 42) (fun H locs ls stk => ∃ (dF_tree_j2 : Nat) (nF_tree_j2 : Nat) (fF_tree_j2 : Nat → Int32), (7 ≤ nF_tree_j2 ∧ nF_tree_j2 ≤ 72200) ∧ (7 * (2 * iT_length.toInt + 16) ≤ ((nF_tree_j2 : Nat) : Int)) ∧ (nF_tree ≤ nF_tree_j2) ∧ (H.size + (nF_tree / 8) ≤ s.heap.size + (nF_tree_j2 / 8) ∧ nS s.heap.size H + (2 * nF_tree) ≤ (2 * nF_tree_j2)) ∧  stk = [] ∧ va_P (dC, dI) vwCl (WJ hJ aJ kJ hT hM hL (.ref dF_tree_j2) iJ_used iJ_depth jJ_ownName gJ_binder iJ_binders iJ_firstSet iJ_secondSet ++ (WF hF aF kF dF_tree_j2 nF_tree_j2 fF_tree_j2 ++ (WT hT aT kT fT_tape dT_tape nT_tape iT_length iT_fault iT_place iT_kind iT_at iT_number jT_name iT_next))) H ∧ va_D A (WJ hJ aJ kJ hT hM hL (.ref dF_tree_j2) iJ_used iJ_depth jJ_ownName gJ_binder iJ_binders iJ_firstSet iJ_secondSet ++ (WF hF aF kF dF_tree_j2 nF_tree_j2 fF_tree_j2 ++ (WT hT aT kT fT_tape dT_tape nT_tape iT_length iT_fault iT_place iT_kind iT_at iT_number jT_name iT_next))) ∧ va_S A s.heap H locs ∧ lv_has ls 2 [(1, .int (iI (7 * ((2 * iT_length.toInt) + 16)))), (0, .ref (hJ 0))]) (fun join2 => ?_) ?_
  · refine W.tight (cells2 := (nF_tree / 8 - (nF_tree / 8))) (slots2 := (2 * nF_tree - (2 * nF_tree))) hzk hnk ?_
    refine lv_icmp_ge (tgt := 42) hx hb dX4_makeRoom_22 (by decide) (fun c_22 => ?_) (fun c_22 => ?_)
    · first | (have t_22 : ((nF_tree : Nat) : Int) ≥ (7 * ((2 * iT_length.toInt) + 16)) := toI_ge c_22 (iI_t (by omega) (by omega)) (iI_t (Int.le_trans (by decide) (Int.mul_le_mul_of_nonneg_left (Int.add_le_add (Int.mul_le_mul_of_nonneg_left (b_iT_length.1) (by decide)) (Int.le_refl _)) (by decide))) (Int.le_trans (Int.mul_le_mul_of_nonneg_left (Int.add_le_add (Int.mul_le_mul_of_nonneg_left (b_iT_length.2) (by decide)) (Int.le_refl _)) (by decide)) (by decide)))) | skip
      have hl : lv_has _ _ ([(1, .int (iI (7 * ((2 * iT_length.toInt) + 16)))), (0, .ref (hJ 0))]) := lv_sub hl [0, 1] rfl
      refine W.known (fun hza hna => ?_)
      refine W.widen (k := 9025) (n := 144400) (by omega) (by omega) ?_
      exact join2 _ _ _ _ ⟨dF_tree, nF_tree, fF_tree, (by first | exact b_nF_tree | with_reducible assumption | exact ⟨by omega, by omega⟩ | assumption), (show 7 * (2 * iT_length.toInt + 16) ≤ ((nF_tree : Nat) : Int) from by omega), (show nF_tree ≤ nF_tree from by omega), ⟨by omega, by omega⟩, rfl, hP, hD, hS, hl⟩
    · first | (have t_22 : ¬ ((nF_tree : Nat) : Int) ≥ (7 * ((2 * iT_length.toInt) + 16)) := toI_nge c_22 (iI_t (by omega) (by omega)) (iI_t (Int.le_trans (by decide) (Int.mul_le_mul_of_nonneg_left (Int.add_le_add (Int.mul_le_mul_of_nonneg_left (b_iT_length.1) (by decide)) (Int.le_refl _)) (by decide))) (Int.le_trans (Int.mul_le_mul_of_nonneg_left (Int.add_le_add (Int.mul_le_mul_of_nonneg_left (b_iT_length.2) (by decide)) (Int.le_refl _)) (by decide)) (by decide)))) | skip
      refine lv_aload_n hx hb dX4_makeRoom_25 rfl (lv_at hl 1 rfl) ?_
      refine lv_iload_n hx hb dX4_makeRoom_26 rfl (lv_at hl 0 rfl) ?_
      refine lv_iconst (v := 2) hx hb dX4_makeRoom_27 (by decide) ?_
      refine lv_aload_n hx hb dX4_makeRoom_28 rfl (lv_at hl 1 rfl) ?_
      refine va_get (D := (dC, dI)) (ci := 4) (v := .ref dF_tree) (C := RX4) (T := TX4) (N := 11) hx hb hts iwsMX4_makeRoom_in4 hown hK hP 0 rfl rfl 3 (by decide) (hts _ hm_m_X4_makeRoom_0) (fun _ h9 => h9) rfl dX4_makeRoom_29 ?_
      refine va_alen hx hb hK hP 2 1 rfl rfl (v := (iI ((nF_tree : Nat) : Int))) (iI_nat _) dX4_makeRoom_32 ?_
      refine lv_imul hx hb dX4_makeRoom_33 ?_
      refine lv_topi (fun y7 hy7 => ?_)
      obtain rfl : (iI (2 * ((nF_tree : Nat) : Int))) = y7 := (hy7.trans (iI_mul2 (by decide : (2 : Int32) = iI 2) rfl)).symm
      refine va_mmax hx hb (by rw [hml]; exact hl.1.symm) hown (hts (.methodLink RX4 97 Lib.Math.max.name) (by decide +kernel)) (hts (.static Lib.Math.max.name) (by decide +kernel)) (hts (.initialized "java/lang/Math") (by decide +kernel)) (hts (.code Lib.Math.max.name Lib.Math.max.code 2 (some .int)) (by decide +kernel)) (by first | decide +kernel | (dsimp only [headSpec] <;> omega)) (Nat.le_of_ble_eq_true rfl) (by first | decide +kernel | (dsimp only [headSpec] <;> omega)) (by first | decide +kernel | (dsimp only [headSpec] <;> omega)) dX4_makeRoom_34 ?_
      refine lv_topi (fun v8 hv8 => ?_)
      first | (have b_v8 : ((7 * ((2 * iT_length.toInt) + 16)) ≤ v8.toInt ∧ (2 * ((nF_tree : Nat) : Int)) ≤ v8.toInt) ∧ (v8.toInt = (7 * ((2 * iT_length.toInt) + 16)) ∨ v8.toInt = (2 * ((nF_tree : Nat) : Int))) := by rw [hv8]; exact max_t (iI_t (Int.le_trans (by decide) (Int.mul_le_mul_of_nonneg_left (Int.add_le_add (Int.mul_le_mul_of_nonneg_left (b_iT_length.1) (by decide)) (Int.le_refl _)) (by decide))) (Int.le_trans (Int.mul_le_mul_of_nonneg_left (Int.add_le_add (Int.mul_le_mul_of_nonneg_left (b_iT_length.2) (by decide)) (Int.le_refl _)) (by decide)) (by decide))) (iI_t (by omega) (by omega))) | skip
      clear hv8
      obtain ⟨nn9, hnn9⟩ : ∃ k9 : Nat, (k9 : Int) = v8.toInt := ⟨(v8.toInt).toNat, by omega⟩
      refine va_newa (atype := .int) (ty := .int) (N' := nn9) (a0 := (nn9, .inl (fun _ => 0))) hx hb (hts (.arrayClass .int) (by decide +kernel)) rfl hK hP hD hS hA (fun _ => rfl) (nn_i rfl (by omega)) (clampN rfl hnn9) (by show nn9 * 4 ≤ 536870912; omega) (by first | decide +kernel | (dsimp only [headSpec] <;> omega)) (by first | decide +kernel | (dsimp only [headSpec] <;> omega)) dX4_makeRoom_37 (fun qn9 cA H hKn hP hD hS => ?_)
      obtain rfl : cA = kF 0 := hKn.cls (i := 1) (j := 3) rfl rfl (by simp)
      clear hKn
      have hP : va_P (dC, dI) vwCl ((WJ hJ aJ kJ hT hM hL (.ref dF_tree) iJ_used iJ_depth jJ_ownName gJ_binder iJ_binders iJ_firstSet iJ_secondSet ++ (WF hF aF kF dF_tree nF_tree fF_tree ++ (WT hT aT kT fT_tape dT_tape nT_tape iT_length iT_fault iT_place iT_kind iT_at iT_number jT_name iT_next))) ++ [(qn9, .inl (kF 0, nn9, .inl (fun _ => 0)))]) H := hP
      have hD := fz_sd hP (hD) rfl
      refine va_put (D := (dC, dI)) (ci := 4) (v := .ref qn9) (ty := .array .int) (C := RX4) (T := TX4) (N := 11) hx hb hts iwsMX4_makeRoom_in4 tyX4 tyX4_ok nmX4 hown hK hP hD hS 0 rfl rfl 3 (by decide) (hts _ hm_m_X4_makeRoom_0) (fun _ h9 => h9) rfl (by decide +kernel) rfl rfl (Nat.le_of_ble_eq_true rfl) dX4_makeRoom_39 (fun H locs hP hD hS => ?_)
      have hP : va_P (dC, dI) vwCl (WJ hJ aJ kJ hT hM hL (.ref qn9) iJ_used iJ_depth jJ_ownName gJ_binder iJ_binders iJ_firstSet iJ_secondSet ++ (WF hF aF kF qn9 nn9 (fun _ => 0) ++ (WT hT aT kT fT_tape dT_tape nT_tape iT_length iT_fault iT_place iT_kind iT_at iT_number jT_name iT_next))) _ := hP.sub [0, 1, 5, 3, 4] rfl
      have hD : va_D _ (WJ hJ aJ kJ hT hM hL (.ref qn9) iJ_used iJ_depth jJ_ownName gJ_binder iJ_binders iJ_firstSet iJ_secondSet ++ (WF hF aF kF qn9 nn9 (fun _ => 0) ++ (WT hT aT kT fT_tape dT_tape nT_tape iT_length iT_fault iT_place iT_kind iT_at iT_number jT_name iT_next))) := hD.sub [0, 1, 5, 3, 4] (by decide) rfl
      have hP : va_P (dC, dI) vwCl (WJ hJ aJ kJ hT hM hL (.ref qn9) iJ_used iJ_depth jJ_ownName gJ_binder iJ_binders iJ_firstSet iJ_secondSet ++ (WF hF aF kF qn9 nn9 (fun _ => 0) ++ (WT hT aT kT fT_tape dT_tape nT_tape iT_length iT_fault iT_place iT_kind iT_at iT_number jT_name iT_next))) H := hP
      have hD := fz_sd hP (hD) rfl
      refine W.widen (k := (nn9 / 8 - (nF_tree / 8))) (n := (2 * nn9 - (2 * nF_tree))) (by omega) (by omega) ?_
      have hl : lv_has _ _ ([(1, .int (iI (7 * ((2 * iT_length.toInt) + 16)))), (0, .ref (hJ 0))]) := lv_sub hl [0, 1] rfl
      refine W.known (fun hza hna => ?_)
      refine W.widen (k := 9025) (n := 144400) (by omega) (by omega) ?_
      exact join2 _ _ _ _ ⟨qn9, nn9, (fun _ => 0), (by first | exact b_nn9 | with_reducible assumption | exact ⟨by omega, by omega⟩ | assumption), (show 7 * (2 * iT_length.toInt + 16) ≤ ((nn9 : Nat) : Int) from by omega), (show nF_tree ≤ nn9 from by omega), ⟨by omega, by omega⟩, rfl, hP, hD, hS, hl⟩
  · intro H locs ls stk
    refine fz_e3 ?_
    intro dF_tree_j2 nF_tree_j2 fF_tree_j2
    refine fz_a9 ?_
    intro b_nF_tree_j2 hjr hgm0_j2 hzn9_3 hst9_4 hP hD hS hl
    have hzj := hzn9_3.1
    have hnj := hzn9_3.2
    clear hzn9_3
    subst hst9_4
    refine W.tight (cells2 := (nF_tree_j2 / 8 - (nF_tree / 8))) (slots2 := (2 * nF_tree_j2 - (2 * nF_tree))) (tg1 hzj hS.1) (tg2 hnj) ?_
    refine W.known (fun hz9 hn9 => ?_)
    refine W.widen (k := 9027) (n := 288800) (by omega) (by omega) ?_
    exact W.vret hx hb hr (fun t9_ ht hW => ⟨⟨(dF_tree_j2, nF_tree_j2, fF_tree_j2), rfl, ⟨(by (try dsimp only); exact (by first | exact b_nF_tree_j2 | with_reducible assumption | exact ⟨by omega, by omega⟩ | assumption)), (by (try dsimp only); omega), (by (try dsimp only); first | omega | assumption)⟩, by rw [ht]; exact hP, hD, by rw [ht]; (try dsimp only); omega, by rw [ht]; (try dsimp only); omega⟩, hS.F ht⟩) hS.2.2 dX4_makeRoom_42
theorem dX10_begin_0 : decode cX10_begin 0 = .ok (.aload_n 0, 1) := dk_42 (by decide +kernel)
theorem dX10_begin_1 : decode cX10_begin 1 = .ok (.aload_n 1, 1) := dk_43 (by decide +kernel)
theorem dX10_begin_2 : decode cX10_begin 2 = .ok (.putfield 55, 3) := dk_181 (by decide +kernel)
theorem dX10_begin_5 : decode cX10_begin 5 = .ok (.aload_n 0, 1) := dk_42 (by decide +kernel)
theorem dX10_begin_6 : decode cX10_begin 6 = .ok (.iconst 0, 1) := dk_3 (by decide +kernel)
theorem dX10_begin_7 : decode cX10_begin 7 = .ok (.putfield 58, 3) := dk_181 (by decide +kernel)
theorem dX10_begin_10 : decode cX10_begin 10 = .ok (.aload_n 0, 1) := dk_42 (by decide +kernel)
theorem dX10_begin_11 : decode cX10_begin 11 = .ok (.iconst 0, 1) := dk_3 (by decide +kernel)
theorem dX10_begin_12 : decode cX10_begin 12 = .ok (.putfield 62, 3) := dk_181 (by decide +kernel)
theorem dX10_begin_15 : decode cX10_begin 15 = .ok (.aload_n 0, 1) := dk_42 (by decide +kernel)
theorem dX10_begin_16 : decode cX10_begin 16 = .ok (.getfield 30, 3) := dk_180 (by decide +kernel)
theorem dX10_begin_19 : decode cX10_begin 19 = .ok (.arraylength, 1) := dk_190 (by decide +kernel)
theorem dX10_begin_20 : decode cX10_begin 20 = .ok (.iload_n 2, 1) := dk_28 (by decide +kernel)
theorem dX10_begin_21 : decode cX10_begin 21 = .ok (.if_icmp .ge 29, 3) := dk_162 (by decide +kernel)
theorem dX10_begin_24 : decode cX10_begin 24 = .ok (.iload_n 2, 1) := dk_28 (by decide +kernel)
theorem dX10_begin_25 : decode cX10_begin 25 = .ok (.iconst 2, 1) := dk_5 (by decide +kernel)
theorem dX10_begin_26 : decode cX10_begin 26 = .ok (.aload_n 0, 1) := dk_42 (by decide +kernel)
theorem dX10_begin_27 : decode cX10_begin 27 = .ok (.getfield 30, 3) := dk_180 (by decide +kernel)
theorem dX10_begin_30 : decode cX10_begin 30 = .ok (.arraylength, 1) := dk_190 (by decide +kernel)
theorem dX10_begin_31 : decode cX10_begin 31 = .ok (.imul, 1) := dk_104 (by decide +kernel)
theorem dX10_begin_32 : decode cX10_begin 32 = .ok (.invokestatic 65, 3) := dk_184 (by decide +kernel)
theorem dX10_begin_35 : decode cX10_begin 35 = .ok (.istore_n 3, 1) := dk_62 (by decide +kernel)
theorem dX10_begin_36 : decode cX10_begin 36 = .ok (.aload_n 0, 1) := dk_42 (by decide +kernel)
theorem dX10_begin_37 : decode cX10_begin 37 = .ok (.iload_n 3, 1) := dk_29 (by decide +kernel)
theorem dX10_begin_38 : decode cX10_begin 38 = .ok (.newarray .int, 2) := by decide +kernel
theorem dX10_begin_40 : decode cX10_begin 40 = .ok (.putfield 30, 3) := dk_181 (by decide +kernel)
theorem dX10_begin_43 : decode cX10_begin 43 = .ok (.aload_n 0, 1) := dk_42 (by decide +kernel)
theorem dX10_begin_44 : decode cX10_begin 44 = .ok (.iload_n 3, 1) := dk_29 (by decide +kernel)
theorem dX10_begin_45 : decode cX10_begin 45 = .ok (.newarray .int, 2) := by decide +kernel
theorem dX10_begin_47 : decode cX10_begin 47 = .ok (.putfield 33, 3) := dk_181 (by decide +kernel)
theorem dX10_begin_50 : decode cX10_begin 50 = .ok (.return_, 1) := dk_177 (by decide +kernel)
def wsMX10_begin : List Cond := .code yX10_begin cX10_begin 4 none :: ([.fieldLink RX10 55 "OptimaWorks$Worker" "tree" "[I", .fieldLink RX10 58 "OptimaWorks$Worker" "names" "I", .fieldLink RX10 62 "OptimaWorks$Worker" "params" "I", .fieldLink RX10 30 "OptimaWorks$Worker" "paramOver" "[I", .methodLink RX10 65 Lib.Math.max.name, .static Lib.Math.max.name, .initialized "java/lang/Math", .code Lib.Math.max.name Lib.Math.max.code 2 (some .int), .arrayClass .int, .fieldLink RX10 33 "OptimaWorks$Worker" "paramUnder" "[I"] ++ wsX100)
theorem iwsMX10_begin_in10 : ∀ w ∈ wsX100, w ∈ wsMX10_begin := fun _ h => List.mem_cons_of_mem _ (List.mem_append_right _ h)
theorem gdwsMX10_begin : wsMX10_begin.all goodWord = true := gdC rfl (gdA (by decide +kernel : ([.fieldLink RX10 55 "OptimaWorks$Worker" "tree" "[I", .fieldLink RX10 58 "OptimaWorks$Worker" "names" "I", .fieldLink RX10 62 "OptimaWorks$Worker" "params" "I", .fieldLink RX10 30 "OptimaWorks$Worker" "paramOver" "[I", .methodLink RX10 65 Lib.Math.max.name, .static Lib.Math.max.name, .initialized "java/lang/Math", .code Lib.Math.max.name Lib.Math.max.code 2 (some .int), .arrayClass .int, .fieldLink RX10 33 "OptimaWorks$Worker" "paramUnder" "[I"] : List Cond).all goodWord = true) gdwsX100)
theorem hm_m_X10_begin_0 : (.fieldLink RX10 30 "OptimaWorks$Worker" "paramOver" "[I" : Cond) ∈ wsMX10_begin := by decide +kernel
theorem hm_m_X10_begin_1 : (.arrayClass .int : Cond) ∈ wsMX10_begin := by decide +kernel
set_option maxHeartbeats 4000000 in
set_option maxRecDepth 100000 in
/-- work begins -/
theorem m_X10_begin (l : Launch) (dC : Nat → ClassId) (dI : Nat → Nat → Nat) (hL : Nat → Nat) (aL : Nat → Nat) (kL : Nat → ClassId) (hT : Nat → Nat) (hM : Nat → Nat) (xL_tree : Value) (iL_names : Int32) (gL_key : Nat → Int64) (fL_kind : Nat → Int32) (fL_one : Nat → Int32) (fL_two : Nat → Int32) (fL_base : Nat → Int32) (iL_params : Int32) (fL_paramOver : Nat → Int32) (dL_paramOver : Nat) (nL_params : Nat) (fL_paramUnder : Nat → Int32) (dL_paramUnder : Nat) (nL_pu : Nat) (gL_over : Nat → Int64) (gL_under : Nat → Int64) (fL_bound : Nat → Int32) (iL_nameAt : Int32) (iL_startAt : Int32) (iL_steps : Int32) (jL_scaleOver : Int64) (jL_scaleUnder : Int64) (q1 : Nat) (p2 : Int32) (b_iL_names : 0 ≤ iL_names.toInt ∧ iL_names.toInt ≤ 40) (b_fL_kind : ∀ q : Nat, 0 ≤ (fL_kind q).toInt ∧ (fL_kind q).toInt ≤ 5) (b_fL_two : ∀ q : Nat, (-1) ≤ (fL_two q).toInt ∧ (fL_two q).toInt ≤ 39) (b_fL_base : ∀ q : Nat, 0 ≤ (fL_base q).toInt ∧ (fL_base q).toInt ≤ 2560) (b_iL_params : 0 ≤ iL_params.toInt ∧ iL_params.toInt ≤ 2560) (b_nL_params : 0 ≤ nL_params ∧ nL_params ≤ 2560) (b_nm : NmL iL_names fL_kind fL_one fL_two fL_base nL_params) (b_pm : iL_params.toInt ≤ ((nL_params : Nat) : Int)) (b_pu : nL_pu = nL_params) (b_p2 : 0 ≤ p2.toInt ∧ p2.toInt ≤ 1280) (sz : Nat) : Met l yX10_begin wsMX10_begin ({ frames := 1, cells := 5122, slots := 15360, locals := 13 }) (va_Pc [.ref (hL 0), .ref q1, .int p2] (fun U => U.heap.size = sz ∧ va_P (dC, dI) vwCl (WL hL aL kL hT hM xL_tree iL_names gL_key fL_kind fL_one fL_two fL_base iL_params fL_paramOver dL_paramOver nL_params fL_paramUnder dL_paramUnder nL_pu gL_over gL_under fL_bound iL_nameAt iL_startAt iL_steps jL_scaleOver jL_scaleUnder) U.heap ∧ va_K (dC, dI) vwCl (tL kL) U ∧ va_D (fun _ => True) (WL hL aL kL hT hM xL_tree iL_names gL_key fL_kind fL_one fL_two fL_base iL_params fL_paramOver dL_paramOver nL_params fL_paramUnder dL_paramUnder nL_pu gL_over gL_under fL_bound iL_nameAt iL_startAt iL_steps jL_scaleOver jL_scaleUnder))) (va_Qv (fun (u : (Value) × (Int32) × (Int32) × (Nat → Int32) × (Nat) × (Nat) × (Nat → Int32) × (Nat) × (Nat)) => (0 ≤ (u.2.1).toInt ∧ (u.2.1).toInt ≤ 40) ∧ (0 ≤ (u.2.2.1).toInt ∧ (u.2.2.1).toInt ≤ 2560) ∧ (0 ≤ (u.2.2.2.2.2.1) ∧ (u.2.2.2.2.2.1) ≤ 2560) ∧ (NmL (u.2.1) fL_kind fL_one fL_two fL_base (u.2.2.2.2.2.1)) ∧ ((u.2.2.1).toInt ≤ (((u.2.2.2.2.2.1) : Nat) : Int)) ∧ ((u.2.2.2.2.2.2.2.2) = (u.2.2.2.2.2.1)) ∧ ((u.1) = .ref q1) ∧ ((u.2.2.1).toInt = 0) ∧ (p2.toInt ≤ (((u.2.2.2.2.2.1) : Nat) : Int)) ∧ (nL_params ≤ (u.2.2.2.2.2.1))) (fun (u : (Value) × (Int32) × (Int32) × (Nat → Int32) × (Nat) × (Nat) × (Nat → Int32) × (Nat) × (Nat)) t => va_P (dC, dI) vwCl (WL hL aL kL hT hM (u.1) (u.2.1) gL_key fL_kind fL_one fL_two fL_base (u.2.2.1) (u.2.2.2.1) (u.2.2.2.2.1) (u.2.2.2.2.2.1) (u.2.2.2.2.2.2.1) (u.2.2.2.2.2.2.2.1) (u.2.2.2.2.2.2.2.2) gL_over gL_under fL_bound iL_nameAt iL_startAt iL_steps jL_scaleOver jL_scaleUnder) t.heap ∧ va_D (va_A (WL hL aL kL hT hM xL_tree iL_names gL_key fL_kind fL_one fL_two fL_base iL_params fL_paramOver dL_paramOver nL_params fL_paramUnder dL_paramUnder nL_pu gL_over gL_under fL_bound iL_nameAt iL_startAt iL_steps jL_scaleOver jL_scaleUnder) sz) (WL hL aL kL hT hM (u.1) (u.2.1) gL_key fL_kind fL_one fL_two fL_base (u.2.2.1) (u.2.2.2.1) (u.2.2.2.2.1) (u.2.2.2.2.2.1) (u.2.2.2.2.2.2.1) (u.2.2.2.2.2.2.2.1) (u.2.2.2.2.2.2.2.2) gL_over gL_under fL_bound iL_nameAt iL_startAt iL_steps jL_scaleOver jL_scaleUnder) ∧ t.heap.size + (2 * nL_params) ≤ sz + (2 * (u.2.2.2.2.2.1)) ∧ nS sz t.heap + (4 * nL_params) ≤ (4 * (u.2.2.2.2.2.1))) (va_A (WL hL aL kL hT hM xL_tree iL_names gL_key fL_kind fL_one fL_two fL_base iL_params fL_paramOver dL_paramOver nL_params fL_paramUnder dL_paramUnder nL_pu gL_over gL_under fL_bound iL_nameAt iL_startAt iL_steps jL_scaleOver jL_scaleUnder) sz)) 5122 15360 (va_A (WL hL aL kL hT hM xL_tree iL_names gL_key fL_kind fL_one fL_two fL_base iL_params fL_paramOver dL_paramOver nL_params fL_paramUnder dL_paramUnder nL_pu gL_over gL_under fL_bound iL_nameAt iL_startAt iL_steps jL_scaleOver jL_scaleUnder) sz) := by
  refine Met.ofW (cc := cX10_begin) (maxL := 4) (ret := none) (by decide) rfl ?_
  intro p e s m args below meth c s₁ B hml hv
  obtain ⟨rfl, hsz, hP, hK, hD0⟩ := hv
  have hx := B.exec
  have hb := B.bytes
  have hr := B.returns
  have hts := atoms_spec (ws := wsMX10_begin) B.pre
  have hown : s.vm.findClass RX10 = some m.cls := findClass_of_methodNamed B.named
  have hlocks := B.notSynchronized
  subst hsz
  have hD := hD0.self (sz := s.heap.size)
  generalize hAe : va_A (WL hL aL kL hT hM xL_tree iL_names gL_key fL_kind fL_one fL_two fL_base iL_params fL_paramOver dL_paramOver nL_params fL_paramUnder dL_paramUnder nL_pu gL_over gL_under fL_bound iL_nameAt iL_startAt iL_steps jL_scaleOver jL_scaleUnder) s.heap.size = A at hD ⊢
  have hA : ∀ q : Nat, s.heap.size ≤ q → A q := fun q h => by rw [← hAe]; exact Or.inr h
  have hS : va_S A s.heap s.heap [] := va_S.rf
  have hl := lv_entry ([.ref (hL 0), .ref q1, .int p2]) (n := 4) (Nat.le_of_ble_eq_true rfl)
  rw [lg_entry_eq]
  generalize (lg_sl ([.ref (hL 0), .ref q1, .int p2]) ++ List.replicate (4 - (lg_sl ([.ref (hL 0), .ref q1, .int p2])).length) Slot.unset).toArray = ls at hl ⊢
  have hl : lv_has ls 4 [(0, .ref (hL 0)), (1, .ref q1), (2, .int p2)] := hl
  refine W.widen (k := (2 * nL_params - (2 * nL_params))) (n := (4 * nL_params - (4 * nL_params))) (Nat.zero_le _) (Nat.zero_le _) ?_
  refine lv_aload_n hx hb dX10_begin_0 rfl (lv_at hl 0 rfl) ?_
  refine lv_aload_n hx hb dX10_begin_1 rfl (lv_at hl 1 rfl) ?_
  refine va_put (D := (dC, dI)) (ci := 10) (v := .ref q1) (ty := .array .int) (C := RX10) (T := TX10) (N := 20) hx hb hts iwsMX10_begin_in10 tyX10 tyX10_ok nmX10 hown hK hP hD hS 0 rfl rfl 2 (by decide) (hts (.fieldLink RX10 55 "OptimaWorks$Worker" "tree" "[I") (by decide +kernel)) (fun _ h9 => h9) rfl (by decide +kernel) rfl rfl (Nat.le_of_ble_eq_true rfl) dX10_begin_2 (fun H locs hP hD hS => ?_)
  have hP : va_P (dC, dI) vwCl (WL hL aL kL hT hM (.ref q1) iL_names gL_key fL_kind fL_one fL_two fL_base iL_params fL_paramOver dL_paramOver nL_params fL_paramUnder dL_paramUnder nL_pu gL_over gL_under fL_bound iL_nameAt iL_startAt iL_steps jL_scaleOver jL_scaleUnder) H := hP
  have hD := fz_sd hP (hD) rfl
  refine lv_aload_n hx hb dX10_begin_5 rfl (lv_at hl 0 rfl) ?_
  refine lv_iconst (v := 0) hx hb dX10_begin_6 (by decide) ?_
  refine va_put (D := (dC, dI)) (ci := 10) (v := .int 0) (ty := .int) (C := RX10) (T := TX10) (N := 20) hx hb hts iwsMX10_begin_in10 tyX10 tyX10_ok nmX10 hown hK hP hD hS 0 rfl rfl 3 (by decide) (hts (.fieldLink RX10 58 "OptimaWorks$Worker" "names" "I") (by decide +kernel)) (fun _ h9 => h9) rfl (by decide +kernel) rfl rfl (Nat.le_of_ble_eq_true rfl) dX10_begin_7 (fun H locs hP hD hS => ?_)
  have hP : va_P (dC, dI) vwCl (WL hL aL kL hT hM (.ref q1) 0 gL_key fL_kind fL_one fL_two fL_base iL_params fL_paramOver dL_paramOver nL_params fL_paramUnder dL_paramUnder nL_pu gL_over gL_under fL_bound iL_nameAt iL_startAt iL_steps jL_scaleOver jL_scaleUnder) H := hP
  have hD := fz_sd hP (hD) rfl
  refine lv_aload_n hx hb dX10_begin_10 rfl (lv_at hl 0 rfl) ?_
  refine lv_iconst (v := 0) hx hb dX10_begin_11 (by decide) ?_
  refine va_put (D := (dC, dI)) (ci := 10) (v := .int 0) (ty := .int) (C := RX10) (T := TX10) (N := 20) hx hb hts iwsMX10_begin_in10 tyX10 tyX10_ok nmX10 hown hK hP hD hS 0 rfl rfl 9 (by decide) (hts (.fieldLink RX10 62 "OptimaWorks$Worker" "params" "I") (by decide +kernel)) (fun _ h9 => h9) rfl (by decide +kernel) rfl rfl (Nat.le_of_ble_eq_true rfl) dX10_begin_12 (fun H locs hP hD hS => ?_)
  have hP : va_P (dC, dI) vwCl (WL hL aL kL hT hM (.ref q1) 0 gL_key fL_kind fL_one fL_two fL_base 0 fL_paramOver dL_paramOver nL_params fL_paramUnder dL_paramUnder nL_pu gL_over gL_under fL_bound iL_nameAt iL_startAt iL_steps jL_scaleOver jL_scaleUnder) H := hP
  have hD := fz_sd hP (hD) rfl
  refine lv_aload_n hx hb dX10_begin_15 rfl (lv_at hl 0 rfl) ?_
  refine va_get (D := (dC, dI)) (ci := 10) (v := .ref dL_paramOver) (C := RX10) (T := TX10) (N := 20) hx hb hts iwsMX10_begin_in10 hown hK hP 0 rfl rfl 10 (by decide) (hts _ hm_m_X10_begin_0) (fun _ h9 => h9) rfl dX10_begin_16 ?_
  refine va_alen hx hb hK hP 6 5 rfl rfl (v := (iI ((nL_params : Nat) : Int))) (iI_nat _) dX10_begin_19 ?_
  refine lv_iload_n hx hb dX10_begin_20 rfl (lv_at hl 2 rfl) ?_
  refine W.known (fun hzk hnk => ?_)
  refine W.widen (k := 5120) (n := 10240) (by omega) (by omega) ?_
  refine W.cut (pc := 50) (fun H locs ls stk => ∃ (fL_paramOver_j2 : Nat → Int32) (dL_paramOver_j2 : Nat) (nL_params_j2 : Nat) (fL_paramUnder_j2 : Nat → Int32) (dL_paramUnder_j2 : Nat) (nL_pu_j2 : Nat), (0 ≤ nL_params_j2 ∧ nL_params_j2 ≤ 2560) ∧ (NmL (0 : Int32) fL_kind fL_one fL_two fL_base nL_params_j2) ∧ ((0 : Int32).toInt ≤ ((nL_params_j2 : Nat) : Int)) ∧ (nL_pu_j2 = nL_params_j2) ∧ (p2.toInt ≤ ((nL_params_j2 : Nat) : Int)) ∧ (nL_params ≤ nL_params_j2) ∧ (H.size + (2 * nL_params) ≤ s.heap.size + (2 * nL_params_j2) ∧ nS s.heap.size H + (4 * nL_params) ≤ (4 * nL_params_j2)) ∧  stk = [] ∧ va_P (dC, dI) vwCl (WL hL aL kL hT hM (.ref q1) 0 gL_key fL_kind fL_one fL_two fL_base 0 fL_paramOver_j2 dL_paramOver_j2 nL_params_j2 fL_paramUnder_j2 dL_paramUnder_j2 nL_pu_j2 gL_over gL_under fL_bound iL_nameAt iL_startAt iL_steps jL_scaleOver jL_scaleUnder) H ∧ va_D A (WL hL aL kL hT hM (.ref q1) 0 gL_key fL_kind fL_one fL_two fL_base 0 fL_paramOver_j2 dL_paramOver_j2 nL_params_j2 fL_paramUnder_j2 dL_paramUnder_j2 nL_pu_j2 gL_over gL_under fL_bound iL_nameAt iL_startAt iL_steps jL_scaleOver jL_scaleUnder) ∧ va_S A s.heap H locs ∧ lv_has ls 4 [(0, .ref (hL 0)), (1, .ref q1), (2, .int p2)]) (fun join2 => ?_) ?_
  · refine W.tight (cells2 := (2 * nL_params - (2 * nL_params))) (slots2 := (4 * nL_params - (4 * nL_params))) hzk hnk ?_
    refine lv_icmp_ge (tgt := 50) hx hb dX10_begin_21 (by decide) (fun c_21 => ?_) (fun c_21 => ?_)
    · first | (have t_21 : ((nL_params : Nat) : Int) ≥ p2.toInt := toI_ge c_21 (iI_t (by omega) (by omega)) rfl) | skip
      have hl : lv_has _ _ ([(0, .ref (hL 0)), (1, .ref q1), (2, .int p2)]) := lv_sub hl [0, 1, 2] rfl
      refine W.known (fun hza hna => ?_)
      refine W.widen (k := 5120) (n := 10240) (by omega) (by omega) ?_
      exact join2 _ _ _ _ ⟨fL_paramOver, dL_paramOver, nL_params, fL_paramUnder, dL_paramUnder, nL_pu, (by first | exact b_nL_params | with_reducible assumption | exact ⟨by omega, by omega⟩ | assumption), (NmL.nil (by decide)), (by have h7 : (0 : Int32).toInt = 0 := (by decide); omega), (by first | rfl | assumption | omega), (show p2.toInt ≤ ((nL_params : Nat) : Int) from by omega), (show nL_params ≤ nL_params from by omega), ⟨by omega, by omega⟩, rfl, hP, hD, hS, hl⟩
    · first | (have t_21 : ¬ ((nL_params : Nat) : Int) ≥ p2.toInt := toI_nge c_21 (iI_t (by omega) (by omega)) rfl) | skip
      refine lv_iload_n hx hb dX10_begin_24 rfl (lv_at hl 2 rfl) ?_
      refine lv_iconst (v := 2) hx hb dX10_begin_25 (by decide) ?_
      refine lv_aload_n hx hb dX10_begin_26 rfl (lv_at hl 0 rfl) ?_
      refine va_get (D := (dC, dI)) (ci := 10) (v := .ref dL_paramOver) (C := RX10) (T := TX10) (N := 20) hx hb hts iwsMX10_begin_in10 hown hK hP 0 rfl rfl 10 (by decide) (hts _ hm_m_X10_begin_0) (fun _ h9 => h9) rfl dX10_begin_27 ?_
      refine va_alen hx hb hK hP 6 5 rfl rfl (v := (iI ((nL_params : Nat) : Int))) (iI_nat _) dX10_begin_30 ?_
      refine lv_imul hx hb dX10_begin_31 ?_
      refine lv_topi (fun y5 hy5 => ?_)
      obtain rfl : (iI (2 * ((nL_params : Nat) : Int))) = y5 := (hy5.trans (iI_mul2 (by decide : (2 : Int32) = iI 2) rfl)).symm
      refine va_mmax hx hb (by rw [hml]; exact hl.1.symm) hown (hts (.methodLink RX10 65 Lib.Math.max.name) (by decide +kernel)) (hts (.static Lib.Math.max.name) (by decide +kernel)) (hts (.initialized "java/lang/Math") (by decide +kernel)) (hts (.code Lib.Math.max.name Lib.Math.max.code 2 (some .int)) (by decide +kernel)) (by first | decide +kernel | (dsimp only [headSpec] <;> omega)) (Nat.le_of_ble_eq_true rfl) (by first | decide +kernel | (dsimp only [headSpec] <;> omega)) (by first | decide +kernel | (dsimp only [headSpec] <;> omega)) dX10_begin_32 ?_
      refine lv_topi (fun v6 hv6 => ?_)
      first | (have b_v6 : (p2.toInt ≤ v6.toInt ∧ (2 * ((nL_params : Nat) : Int)) ≤ v6.toInt) ∧ (v6.toInt = p2.toInt ∨ v6.toInt = (2 * ((nL_params : Nat) : Int))) := by rw [hv6]; exact max_t rfl (iI_t (by omega) (by omega))) | skip
      clear hv6
      refine lv_istore_n hx hb dX10_begin_35 rfl hl (by decide) rfl (fun ls (hl : lv_has ls _ ([(3, .int v6), (0, .ref (hL 0)), (1, .ref q1), (2, .int p2)])) => ?_)
      refine lv_aload_n hx hb dX10_begin_36 rfl (lv_at hl 1 rfl) ?_
      refine lv_iload_n hx hb dX10_begin_37 rfl (lv_at hl 0 rfl) ?_
      obtain ⟨nn7, hnn7⟩ : ∃ k9 : Nat, (k9 : Int) = v6.toInt := ⟨(v6.toInt).toNat, by omega⟩
      refine va_newa (atype := .int) (ty := .int) (N' := nn7) (a0 := (nn7, .inl (fun _ => 0))) hx hb (hts _ hm_m_X10_begin_1) rfl hK hP hD hS hA (fun _ => rfl) (nn_i rfl (by omega)) (clampN rfl hnn7) (by show nn7 * 4 ≤ 536870912; omega) (by first | decide +kernel | (dsimp only [headSpec] <;> omega)) (by first | decide +kernel | (dsimp only [headSpec] <;> omega)) dX10_begin_38 (fun qn7 cA H hKn hP hD hS => ?_)
      obtain rfl : cA = kL 5 := hKn.cls (i := 5) (j := 10) rfl rfl (by simp)
      clear hKn
      have hP : va_P (dC, dI) vwCl ((WL hL aL kL hT hM (.ref q1) 0 gL_key fL_kind fL_one fL_two fL_base 0 fL_paramOver dL_paramOver nL_params fL_paramUnder dL_paramUnder nL_pu gL_over gL_under fL_bound iL_nameAt iL_startAt iL_steps jL_scaleOver jL_scaleUnder) ++ [(qn7, .inl (kL 5, nn7, .inl (fun _ => 0)))]) H := hP
      have hD := fz_sd hP (hD) rfl
      refine va_put (D := (dC, dI)) (ci := 10) (v := .ref qn7) (ty := .array .int) (C := RX10) (T := TX10) (N := 20) hx hb hts iwsMX10_begin_in10 tyX10 tyX10_ok nmX10 hown hK hP hD hS 0 rfl rfl 10 (by decide) (hts _ hm_m_X10_begin_0) (fun _ h9 => h9) rfl (by decide +kernel) rfl rfl (Nat.le_of_ble_eq_true rfl) dX10_begin_40 (fun H locs hP hD hS => ?_)
      have hP : va_P (dC, dI) vwCl (WL hL aL kL hT hM (.ref q1) 0 gL_key fL_kind fL_one fL_two fL_base 0 (fun _ => 0) qn7 nn7 fL_paramUnder dL_paramUnder nL_pu gL_over gL_under fL_bound iL_nameAt iL_startAt iL_steps jL_scaleOver jL_scaleUnder) _ := hP.sub [0, 1, 2, 3, 4, 5, 11, 7, 8, 9, 10] rfl
      have hD : va_D _ (WL hL aL kL hT hM (.ref q1) 0 gL_key fL_kind fL_one fL_two fL_base 0 (fun _ => 0) qn7 nn7 fL_paramUnder dL_paramUnder nL_pu gL_over gL_under fL_bound iL_nameAt iL_startAt iL_steps jL_scaleOver jL_scaleUnder) := hD.sub [0, 1, 2, 3, 4, 5, 11, 7, 8, 9, 10] (by decide) rfl
      have hP : va_P (dC, dI) vwCl (WL hL aL kL hT hM (.ref q1) 0 gL_key fL_kind fL_one fL_two fL_base 0 (fun _ => 0) qn7 nn7 fL_paramUnder dL_paramUnder nL_pu gL_over gL_under fL_bound iL_nameAt iL_startAt iL_steps jL_scaleOver jL_scaleUnder) H := hP
      have hD := fz_sd hP (hD) rfl
      refine lv_aload_n hx hb dX10_begin_43 rfl (lv_at hl 1 rfl) ?_
      refine lv_iload_n hx hb dX10_begin_44 rfl (lv_at hl 0 rfl) ?_
      obtain ⟨nn8, hnn8⟩ : ∃ k9 : Nat, (k9 : Int) = v6.toInt := ⟨(v6.toInt).toNat, by omega⟩
      refine va_newa (atype := .int) (ty := .int) (N' := nn8) (a0 := (nn8, .inl (fun _ => 0))) hx hb (hts _ hm_m_X10_begin_1) rfl hK hP hD hS hA (fun _ => rfl) (nn_i rfl (by omega)) (clampN rfl hnn8) (by show nn8 * 4 ≤ 536870912; omega) (by first | decide +kernel | (dsimp only [headSpec] <;> omega)) (by first | decide +kernel | (dsimp only [headSpec] <;> omega)) dX10_begin_45 (fun qn8 cA H hKn hP hD hS => ?_)
      obtain rfl : cA = kL 6 := hKn.cls (i := 6) (j := 10) rfl rfl (by simp)
      clear hKn
      have hP : va_P (dC, dI) vwCl ((WL hL aL kL hT hM (.ref q1) 0 gL_key fL_kind fL_one fL_two fL_base 0 (fun _ => 0) qn7 nn7 fL_paramUnder dL_paramUnder nL_pu gL_over gL_under fL_bound iL_nameAt iL_startAt iL_steps jL_scaleOver jL_scaleUnder) ++ [(qn8, .inl (kL 6, nn8, .inl (fun _ => 0)))]) H := hP
      have hD := fz_sd hP (hD) rfl
      refine va_put (D := (dC, dI)) (ci := 10) (v := .ref qn8) (ty := .array .int) (C := RX10) (T := TX10) (N := 20) hx hb hts iwsMX10_begin_in10 tyX10 tyX10_ok nmX10 hown hK hP hD hS 0 rfl rfl 11 (by decide) (hts (.fieldLink RX10 33 "OptimaWorks$Worker" "paramUnder" "[I") (by decide +kernel)) (fun _ h9 => h9) rfl (by decide +kernel) rfl rfl (Nat.le_of_ble_eq_true rfl) dX10_begin_47 (fun H locs hP hD hS => ?_)
      have hP : va_P (dC, dI) vwCl (WL hL aL kL hT hM (.ref q1) 0 gL_key fL_kind fL_one fL_two fL_base 0 (fun _ => 0) qn7 nn7 (fun _ => 0) qn8 nn8 gL_over gL_under fL_bound iL_nameAt iL_startAt iL_steps jL_scaleOver jL_scaleUnder) _ := hP.sub [0, 1, 2, 3, 4, 5, 6, 11, 8, 9, 10] rfl
      have hD : va_D _ (WL hL aL kL hT hM (.ref q1) 0 gL_key fL_kind fL_one fL_two fL_base 0 (fun _ => 0) qn7 nn7 (fun _ => 0) qn8 nn8 gL_over gL_under fL_bound iL_nameAt iL_startAt iL_steps jL_scaleOver jL_scaleUnder) := hD.sub [0, 1, 2, 3, 4, 5, 6, 11, 8, 9, 10] (by decide) rfl
      have hP : va_P (dC, dI) vwCl (WL hL aL kL hT hM (.ref q1) 0 gL_key fL_kind fL_one fL_two fL_base 0 (fun _ => 0) qn7 nn7 (fun _ => 0) qn8 nn8 gL_over gL_under fL_bound iL_nameAt iL_startAt iL_steps jL_scaleOver jL_scaleUnder) H := hP
      have hD := fz_sd hP (hD) rfl
      refine W.widen (k := (2 * nn7 - (2 * nL_params))) (n := (4 * nn7 - (4 * nL_params))) (by omega) (by omega) ?_
      have hl : lv_has _ _ ([(0, .ref (hL 0)), (1, .ref q1), (2, .int p2)]) := lv_sub hl [1, 2, 3] rfl
      refine W.known (fun hza hna => ?_)
      refine W.widen (k := 5120) (n := 10240) (by omega) (by omega) ?_
      exact join2 _ _ _ _ ⟨(fun _ => 0), qn7, nn7, (fun _ => 0), qn8, nn8, (by first | exact b_nn7 | with_reducible assumption | exact ⟨by omega, by omega⟩ | assumption), (NmL.nil (by decide)), (by have h7 : (0 : Int32).toInt = 0 := (by decide); omega), (by first | rfl | assumption | omega), (show p2.toInt ≤ ((nn7 : Nat) : Int) from by omega), (show nL_params ≤ nn7 from by omega), ⟨by omega, by omega⟩, rfl, hP, hD, hS, hl⟩
  · intro H locs ls stk
    refine fz_e6 ?_
    intro fL_paramOver_j2 dL_paramOver_j2 nL_params_j2 fL_paramUnder_j2 dL_paramUnder_j2 nL_pu_j2
    refine fz_a12 ?_
    intro b_nL_params_j2 b_nm_j2 b_pm_j2 b_pu_j2 hjp hgm0_j2 hzn9_6 hst9_7 hP hD hS hl
    have hzj := hzn9_6.1
    have hnj := hzn9_6.2
    clear hzn9_6
    subst hst9_7
    refine W.tight (cells2 := (2 * nL_params_j2 - (2 * nL_params))) (slots2 := (4 * nL_params_j2 - (4 * nL_params))) (tg1 hzj hS.1) (tg2 hnj) ?_
    refine W.known (fun hz9 hn9 => ?_)
    refine W.widen (k := 5122) (n := 15360) (by omega) (by omega) ?_
    exact W.vret hx hb hr (fun t9_ ht hW => ⟨⟨((.ref q1), 0, 0, fL_paramOver_j2, dL_paramOver_j2, nL_params_j2, fL_paramUnder_j2, dL_paramUnder_j2, nL_pu_j2), rfl, ⟨(by (try dsimp only); exact (show 0 ≤ (0 : Int32).toInt ∧ (0 : Int32).toInt ≤ 40 from by decide)), (by (try dsimp only); exact (show 0 ≤ (0 : Int32).toInt ∧ (0 : Int32).toInt ≤ 2560 from by decide)), (by (try dsimp only); exact (by first | exact b_nL_params_j2 | with_reducible assumption | exact ⟨by omega, by omega⟩ | assumption)), (by (try dsimp only); exact (NmL.nil (by decide))), (by (try dsimp only); exact (by have h7 : (0 : Int32).toInt = 0 := (by decide); omega)), (by (try dsimp only); exact (by first | rfl | assumption | omega)), (by (try dsimp only); first | done | rfl), (by (try dsimp only); first | done | decide), (by (try dsimp only); first | assumption | omega), (by (try dsimp only); omega)⟩, by rw [ht]; exact hP, hD, by rw [ht]; (try dsimp only); omega, by rw [ht]; (try dsimp only); omega⟩, hS.F ht⟩) hS.2.2 dX10_begin_50
end
section
theorem dX4_readAll_0 : decode cX4_readAll 0 = .ok (.aload_n 0, 1) := dk_42 (by decide +kernel)
theorem dX4_readAll_1 : decode cX4_readAll 1 = .ok (.invokevirtual 36, 3) := dk_182 (by decide +kernel)
theorem dX4_readAll_4 : decode cX4_readAll 4 = .ok (.aload_n 0, 1) := dk_42 (by decide +kernel)
theorem dX4_readAll_5 : decode cX4_readAll 5 = .ok (.getfield 32, 3) := dk_180 (by decide +kernel)
theorem dX4_readAll_8 : decode cX4_readAll 8 = .ok (.aload_n 0, 1) := dk_42 (by decide +kernel)
theorem dX4_readAll_9 : decode cX4_readAll 9 = .ok (.getfield 11, 3) := dk_180 (by decide +kernel)
theorem dX4_readAll_12 : decode cX4_readAll 12 = .ok (.aload_n 0, 1) := dk_42 (by decide +kernel)
theorem dX4_readAll_13 : decode cX4_readAll 13 = .ok (.getfield 19, 3) := dk_180 (by decide +kernel)
theorem dX4_readAll_16 : decode cX4_readAll 16 = .ok (.getfield 39, 3) := dk_180 (by decide +kernel)
theorem dX4_readAll_19 : decode cX4_readAll 19 = .ok (.invokevirtual 45, 3) := dk_182 (by decide +kernel)
theorem dX4_readAll_22 : decode cX4_readAll 22 = .ok (.aload_n 0, 1) := dk_42 (by decide +kernel)
theorem dX4_readAll_23 : decode cX4_readAll 23 = .ok (.getfield 19, 3) := dk_180 (by decide +kernel)
theorem dX4_readAll_26 : decode cX4_readAll 26 = .ok (.invokevirtual 49, 3) := dk_182 (by decide +kernel)
theorem dX4_readAll_29 : decode cX4_readAll 29 = .ok (.iconst 0, 1) := dk_3 (by decide +kernel)
theorem dX4_readAll_30 : decode cX4_readAll 30 = .ok (.istore_n 1, 1) := dk_60 (by decide +kernel)
theorem dX4_readAll_31 : decode cX4_readAll 31 = .ok (.iload_n 1, 1) := dk_27 (by decide +kernel)
theorem dX4_readAll_32 : decode cX4_readAll 32 = .ok (.sipush 4000, 3) := dk_17 (by decide +kernel)
theorem dX4_readAll_35 : decode cX4_readAll 35 = .ok (.if_icmp .ge 188, 3) := dk_162 (by decide +kernel)
theorem dX4_readAll_38 : decode cX4_readAll 38 = .ok (.aload_n 0, 1) := dk_42 (by decide +kernel)
theorem dX4_readAll_39 : decode cX4_readAll 39 = .ok (.getfield 19, 3) := dk_180 (by decide +kernel)
theorem dX4_readAll_42 : decode cX4_readAll 42 = .ok (.getfield 51, 3) := dk_180 (by decide +kernel)
theorem dX4_readAll_45 : decode cX4_readAll 45 = .ok (.ifCond .eq 178, 3) := dk_153 (by decide +kernel)
theorem dX4_readAll_48 : decode cX4_readAll 48 = .ok (.aload_n 0, 1) := dk_42 (by decide +kernel)
theorem dX4_readAll_49 : decode cX4_readAll 49 = .ok (.bipush 7, 2) := dk_16 (by decide +kernel)
theorem dX4_readAll_51 : decode cX4_readAll 51 = .ok (.putfield 54, 3) := dk_181 (by decide +kernel)
theorem dX4_readAll_54 : decode cX4_readAll 54 = .ok (.aload_n 0, 1) := dk_42 (by decide +kernel)
theorem dX4_readAll_55 : decode cX4_readAll 55 = .ok (.iconst 0, 1) := dk_3 (by decide +kernel)
theorem dX4_readAll_56 : decode cX4_readAll 56 = .ok (.putfield 57, 3) := dk_181 (by decide +kernel)
theorem dX4_readAll_59 : decode cX4_readAll 59 = .ok (.aload_n 0, 1) := dk_42 (by decide +kernel)
theorem dX4_readAll_60 : decode cX4_readAll 60 = .ok (.iconst 0, 1) := dk_3 (by decide +kernel)
theorem dX4_readAll_61 : decode cX4_readAll 61 = .ok (.putfield 60, 3) := dk_181 (by decide +kernel)
theorem dX4_readAll_64 : decode cX4_readAll 64 = .ok (.aload_n 0, 1) := dk_42 (by decide +kernel)
theorem dX4_readAll_65 : decode cX4_readAll 65 = .ok (.lconst 0, 1) := dk_9 (by decide +kernel)
theorem dX4_readAll_66 : decode cX4_readAll 66 = .ok (.putfield 63, 3) := dk_181 (by decide +kernel)
theorem dX4_readAll_69 : decode cX4_readAll 69 = .ok (.aload_n 0, 1) := dk_42 (by decide +kernel)
theorem dX4_readAll_70 : decode cX4_readAll 70 = .ok (.getfield 32, 3) := dk_180 (by decide +kernel)
theorem dX4_readAll_73 : decode cX4_readAll 73 = .ok (.aload_n 0, 1) := dk_42 (by decide +kernel)
theorem dX4_readAll_74 : decode cX4_readAll 74 = .ok (.getfield 19, 3) := dk_180 (by decide +kernel)
theorem dX4_readAll_77 : decode cX4_readAll 77 = .ok (.getfield 67, 3) := dk_180 (by decide +kernel)
theorem dX4_readAll_80 : decode cX4_readAll 80 = .ok (.invokevirtual 70, 3) := dk_182 (by decide +kernel)
theorem dX4_readAll_83 : decode cX4_readAll 83 = .ok (.aload_n 0, 1) := dk_42 (by decide +kernel)
theorem dX4_readAll_84 : decode cX4_readAll 84 = .ok (.getfield 19, 3) := dk_180 (by decide +kernel)
theorem dX4_readAll_87 : decode cX4_readAll 87 = .ok (.getfield 51, 3) := dk_180 (by decide +kernel)
theorem dX4_readAll_90 : decode cX4_readAll 90 = .ok (.tableswitch 120 256 271 #[78, 85, 92, 120, 120, 120, 99, 120, 120, 120, 120, 120, 120, 106, 113, 113], 78) := by decide +kernel
theorem dX4_readAll_168 : decode cX4_readAll 168 = .ok (.aload_n 0, 1) := dk_42 (by decide +kernel)
theorem dX4_readAll_169 : decode cX4_readAll 169 = .ok (.invokevirtual 74, 3) := dk_182 (by decide +kernel)
theorem dX4_readAll_172 : decode cX4_readAll 172 = .ok (.goto 45, 3) := dk_167 (by decide +kernel)
theorem dX4_readAll_175 : decode cX4_readAll 175 = .ok (.aload_n 0, 1) := dk_42 (by decide +kernel)
theorem dX4_readAll_176 : decode cX4_readAll 176 = .ok (.invokevirtual 77, 3) := dk_182 (by decide +kernel)
theorem dX4_readAll_179 : decode cX4_readAll 179 = .ok (.goto 38, 3) := dk_167 (by decide +kernel)
theorem dX4_readAll_182 : decode cX4_readAll 182 = .ok (.aload_n 0, 1) := dk_42 (by decide +kernel)
theorem dX4_readAll_183 : decode cX4_readAll 183 = .ok (.invokevirtual 80, 3) := dk_182 (by decide +kernel)
theorem dX4_readAll_186 : decode cX4_readAll 186 = .ok (.goto 31, 3) := dk_167 (by decide +kernel)
theorem dX4_readAll_189 : decode cX4_readAll 189 = .ok (.aload_n 0, 1) := dk_42 (by decide +kernel)
theorem dX4_readAll_190 : decode cX4_readAll 190 = .ok (.invokevirtual 83, 3) := dk_182 (by decide +kernel)
theorem dX4_readAll_193 : decode cX4_readAll 193 = .ok (.goto 24, 3) := dk_167 (by decide +kernel)
theorem dX4_readAll_196 : decode cX4_readAll 196 = .ok (.aload_n 0, 1) := dk_42 (by decide +kernel)
theorem dX4_readAll_197 : decode cX4_readAll 197 = .ok (.invokevirtual 86, 3) := dk_182 (by decide +kernel)
theorem dX4_readAll_200 : decode cX4_readAll 200 = .ok (.goto 17, 3) := dk_167 (by decide +kernel)
theorem dX4_readAll_203 : decode cX4_readAll 203 = .ok (.aload_n 0, 1) := dk_42 (by decide +kernel)
theorem dX4_readAll_204 : decode cX4_readAll 204 = .ok (.invokevirtual 89, 3) := dk_182 (by decide +kernel)
theorem dX4_readAll_207 : decode cX4_readAll 207 = .ok (.goto 10, 3) := dk_167 (by decide +kernel)
theorem dX4_readAll_210 : decode cX4_readAll 210 = .ok (.aload_n 0, 1) := dk_42 (by decide +kernel)
theorem dX4_readAll_211 : decode cX4_readAll 211 = .ok (.getfield 19, 3) := dk_180 (by decide +kernel)
theorem dX4_readAll_214 : decode cX4_readAll 214 = .ok (.invokevirtual 92, 3) := dk_182 (by decide +kernel)
theorem dX4_readAll_217 : decode cX4_readAll 217 = .ok (.iinc 1 1, 3) := dk_132 (by decide +kernel)
theorem dX4_readAll_220 : decode cX4_readAll 220 = .ok (.goto (-189), 3) := dk_167 (by decide +kernel)
theorem dX4_readAll_223 : decode cX4_readAll 223 = .ok (.iconst 1, 1) := dk_4 (by decide +kernel)
theorem dX4_readAll_224 : decode cX4_readAll 224 = .ok (.ireturn, 1) := dk_172 (by decide +kernel)
theorem dX4_readAll_225 : decode cX4_readAll 225 = .ok (.astore_n 1, 1) := dk_76 (by decide +kernel)
theorem dX4_readAll_226 : decode cX4_readAll 226 = .ok (.iconst 0, 1) := dk_3 (by decide +kernel)
theorem dX4_readAll_227 : decode cX4_readAll 227 = .ok (.ireturn, 1) := dk_172 (by decide +kernel)
theorem tbo_X4_readAll_90 {x : Int32} (h0 : ¬ x = 256) (h1 : ¬ x = 257) (h2 : ¬ x = 258) (h3 : ¬ x = 259) (h4 : ¬ x = 260) (h5 : ¬ x = 261) (h6 : ¬ x = 262) (h7 : ¬ x = 263) (h8 : ¬ x = 264) (h9 : ¬ x = 265) (h10 : ¬ x = 266) (h11 : ¬ x = 267) (h12 : ¬ x = 268) (h13 : ¬ x = 269) (h14 : ¬ x = 270) (h15 : ¬ x = 271) : x.toInt < 256 ∨ 271 < x.toInt := by have := lv_neT h0 (show Int32.toInt 256 = 256 by decide); have := lv_neT h1 (show Int32.toInt 257 = 257 by decide); have := lv_neT h2 (show Int32.toInt 258 = 258 by decide); have := lv_neT h3 (show Int32.toInt 259 = 259 by decide); have := lv_neT h4 (show Int32.toInt 260 = 260 by decide); have := lv_neT h5 (show Int32.toInt 261 = 261 by decide); have := lv_neT h6 (show Int32.toInt 262 = 262 by decide); have := lv_neT h7 (show Int32.toInt 263 = 263 by decide); have := lv_neT h8 (show Int32.toInt 264 = 264 by decide); have := lv_neT h9 (show Int32.toInt 265 = 265 by decide); have := lv_neT h10 (show Int32.toInt 266 = 266 by decide); have := lv_neT h11 (show Int32.toInt 267 = 267 by decide); have := lv_neT h12 (show Int32.toInt 268 = 268 by decide); have := lv_neT h13 (show Int32.toInt 269 = 269 by decide); have := lv_neT h14 (show Int32.toInt 270 = 270 by decide); have := lv_neT h15 (show Int32.toInt 271 = 271 by decide); omega
def wsMX4_readAll : List Cond := .codeWith yX4_readAll cX4_readAll 2 (some .boolean) [(29, 224, 225, 95)] :: ([.fieldLink RX4 32 "OptimaWorks$Reader" "worker" "LOptimaWorks$Worker;", .fieldLink RX4 11 "OptimaWorks$Reader" "tree" "[I", .fieldLink RX4 19 "OptimaWorks$Reader" "words" "LOptimaWorks$Words;", .fieldLink RX4 39 "OptimaWorks$Words" "length" "I", .fieldLink RX4 51 "OptimaWorks$Words" "kind" "I", .fieldLink RX4 54 "OptimaWorks$Reader" "used" "I", .fieldLink RX4 57 "OptimaWorks$Reader" "depth" "I", .fieldLink RX4 60 "OptimaWorks$Reader" "binders" "I", .fieldLink RX4 63 "OptimaWorks$Reader" "ownName" "J", .fieldLink RX4 67 "OptimaWorks$Words" "at" "I", .classLink RX4 95 "java/lang/IllegalArgumentException"] ++ wsX40 ++ wsX90 ++ (wsV RX4 36 RX4 yX4_makeRoom wsMX4_makeRoom) ++ (wsV RX4 45 RX10 yX10_begin wsMX10_begin) ++ (wsV RX4 49 RX9 yX9_begin wsMX9_begin) ++ (wsV RX4 70 RX10 yX10_startDeclaration wsMX10_startDeclaration) ++ (wsV RX4 74 RX4 yX4_readSet wsMX4_readSet) ++ (wsV RX4 77 RX4 yX4_readParam wsMX4_readParam) ++ (wsV RX4 80 RX4 yX4_readVar wsMX4_readVar) ++ (wsV RX4 83 RX4 yX4_readRow wsMX4_readRow) ++ (wsV RX4 86 RX4 yX4_readDifferent wsMX4_readDifferent) ++ (wsV RX4 89 RX4 yX4_readGoal wsMX4_readGoal) ++ (wsV RX4 92 RX9 yX9_failWord wsMX9_failWord))
theorem iwsMX4_readAll_in4 : ∀ w ∈ wsX40, w ∈ wsMX4_readAll := fun _ h => List.mem_cons_of_mem _ (List.mem_append_left _ (List.mem_append_left _ (List.mem_append_left _ (List.mem_append_left _ (List.mem_append_left _ (List.mem_append_left _ (List.mem_append_left _ (List.mem_append_left _ (List.mem_append_left _ (List.mem_append_left _ (List.mem_append_left _ (List.mem_append_left _ (List.mem_append_right _ h)))))))))))))
theorem iwsMX4_readAll_in9 : ∀ w ∈ wsX90, w ∈ wsMX4_readAll := fun _ h => List.mem_cons_of_mem _ (List.mem_append_left _ (List.mem_append_left _ (List.mem_append_left _ (List.mem_append_left _ (List.mem_append_left _ (List.mem_append_left _ (List.mem_append_left _ (List.mem_append_left _ (List.mem_append_left _ (List.mem_append_left _ (List.mem_append_left _ (List.mem_append_right _ h))))))))))))
theorem gwsMX4_readAll_0 : GoodIn wsMX4_readAll (wsV RX4 36 RX4 yX4_makeRoom wsMX4_makeRoom) := goodIn_sub (fun _ h => List.mem_cons_of_mem _ (List.mem_append_left _ (List.mem_append_left _ (List.mem_append_left _ (List.mem_append_left _ (List.mem_append_left _ (List.mem_append_left _ (List.mem_append_left _ (List.mem_append_left _ (List.mem_append_left _ (List.mem_append_left _ (List.mem_append_right _ h)))))))))))) (gdV (by decide +kernel) gdwsMX4_makeRoom)
theorem gwsMX4_readAll_1 : GoodIn wsMX4_readAll (wsV RX4 45 RX10 yX10_begin wsMX10_begin) := goodIn_sub (fun _ h => List.mem_cons_of_mem _ (List.mem_append_left _ (List.mem_append_left _ (List.mem_append_left _ (List.mem_append_left _ (List.mem_append_left _ (List.mem_append_left _ (List.mem_append_left _ (List.mem_append_left _ (List.mem_append_left _ (List.mem_append_right _ h))))))))))) (gdV (by decide +kernel) gdwsMX10_begin)
theorem gwsMX4_readAll_2 : GoodIn wsMX4_readAll (wsV RX4 49 RX9 yX9_begin wsMX9_begin) := goodIn_sub (fun _ h => List.mem_cons_of_mem _ (List.mem_append_left _ (List.mem_append_left _ (List.mem_append_left _ (List.mem_append_left _ (List.mem_append_left _ (List.mem_append_left _ (List.mem_append_left _ (List.mem_append_left _ (List.mem_append_right _ h)))))))))) (gdV (by decide +kernel) gdwsMX9_begin)
theorem gwsMX4_readAll_3 : GoodIn wsMX4_readAll (wsV RX4 70 RX10 yX10_startDeclaration wsMX10_startDeclaration) := goodIn_sub (fun _ h => List.mem_cons_of_mem _ (List.mem_append_left _ (List.mem_append_left _ (List.mem_append_left _ (List.mem_append_left _ (List.mem_append_left _ (List.mem_append_left _ (List.mem_append_left _ (List.mem_append_right _ h))))))))) (gdV (by decide +kernel) gdwsMX10_startDeclaration)
theorem gwsMX4_readAll_4 : GoodIn wsMX4_readAll (wsV RX4 74 RX4 yX4_readSet wsMX4_readSet) := goodIn_sub (fun _ h => List.mem_cons_of_mem _ (List.mem_append_left _ (List.mem_append_left _ (List.mem_append_left _ (List.mem_append_left _ (List.mem_append_left _ (List.mem_append_left _ (List.mem_append_right _ h)))))))) (gdV (by decide +kernel) gdwsMX4_readSet)
theorem gwsMX4_readAll_5 : GoodIn wsMX4_readAll (wsV RX4 77 RX4 yX4_readParam wsMX4_readParam) := goodIn_sub (fun _ h => List.mem_cons_of_mem _ (List.mem_append_left _ (List.mem_append_left _ (List.mem_append_left _ (List.mem_append_left _ (List.mem_append_left _ (List.mem_append_right _ h))))))) (gdV (by decide +kernel) gdwsMX4_readParam)
theorem gwsMX4_readAll_6 : GoodIn wsMX4_readAll (wsV RX4 80 RX4 yX4_readVar wsMX4_readVar) := goodIn_sub (fun _ h => List.mem_cons_of_mem _ (List.mem_append_left _ (List.mem_append_left _ (List.mem_append_left _ (List.mem_append_left _ (List.mem_append_right _ h)))))) (gdV (by decide +kernel) gdwsMX4_readVar)
theorem gwsMX4_readAll_7 : GoodIn wsMX4_readAll (wsV RX4 83 RX4 yX4_readRow wsMX4_readRow) := goodIn_sub (fun _ h => List.mem_cons_of_mem _ (List.mem_append_left _ (List.mem_append_left _ (List.mem_append_left _ (List.mem_append_right _ h))))) (gdV (by decide +kernel) gdwsMX4_readRow)
theorem gwsMX4_readAll_8 : GoodIn wsMX4_readAll (wsV RX4 86 RX4 yX4_readDifferent wsMX4_readDifferent) := goodIn_sub (fun _ h => List.mem_cons_of_mem _ (List.mem_append_left _ (List.mem_append_left _ (List.mem_append_right _ h)))) (gdV (by decide +kernel) gdwsMX4_readDifferent)
theorem gwsMX4_readAll_9 : GoodIn wsMX4_readAll (wsV RX4 89 RX4 yX4_readGoal wsMX4_readGoal) := goodIn_sub (fun _ h => List.mem_cons_of_mem _ (List.mem_append_left _ (List.mem_append_right _ h))) (gdV (by decide +kernel) gdwsMX4_readGoal)
theorem gwsMX4_readAll_10 : GoodIn wsMX4_readAll (wsV RX4 92 RX9 yX9_failWord wsMX9_failWord) := goodIn_sub (fun _ h => List.mem_cons_of_mem _ (List.mem_append_right _ h)) (gdV (by decide +kernel) gdwsMX9_failWord)
theorem gdwsMX4_readAll : wsMX4_readAll.all goodWord = true := gdC rfl (gdA (gdA (gdA (gdA (gdA (gdA (gdA (gdA (gdA (gdA (gdA (gdA (gdA (by decide +kernel : ([.fieldLink RX4 32 "OptimaWorks$Reader" "worker" "LOptimaWorks$Worker;", .fieldLink RX4 11 "OptimaWorks$Reader" "tree" "[I", .fieldLink RX4 19 "OptimaWorks$Reader" "words" "LOptimaWorks$Words;", .fieldLink RX4 39 "OptimaWorks$Words" "length" "I", .fieldLink RX4 51 "OptimaWorks$Words" "kind" "I", .fieldLink RX4 54 "OptimaWorks$Reader" "used" "I", .fieldLink RX4 57 "OptimaWorks$Reader" "depth" "I", .fieldLink RX4 60 "OptimaWorks$Reader" "binders" "I", .fieldLink RX4 63 "OptimaWorks$Reader" "ownName" "J", .fieldLink RX4 67 "OptimaWorks$Words" "at" "I", .classLink RX4 95 "java/lang/IllegalArgumentException"] : List Cond).all goodWord = true) gdwsX40) gdwsX90) (gdV (by decide +kernel) gdwsMX4_makeRoom)) (gdV (by decide +kernel) gdwsMX10_begin)) (gdV (by decide +kernel) gdwsMX9_begin)) (gdV (by decide +kernel) gdwsMX10_startDeclaration)) (gdV (by decide +kernel) gdwsMX4_readSet)) (gdV (by decide +kernel) gdwsMX4_readParam)) (gdV (by decide +kernel) gdwsMX4_readVar)) (gdV (by decide +kernel) gdwsMX4_readRow)) (gdV (by decide +kernel) gdwsMX4_readDifferent)) (gdV (by decide +kernel) gdwsMX4_readGoal)) (gdV (by decide +kernel) gdwsMX9_failWord))
theorem hm_m_X4_readAll_0 : (.fieldLink RX4 32 "OptimaWorks$Reader" "worker" "LOptimaWorks$Worker;" : Cond) ∈ wsMX4_readAll := by decide +kernel
theorem hm_m_X4_readAll_1 : (.fieldLink RX4 19 "OptimaWorks$Reader" "words" "LOptimaWorks$Words;" : Cond) ∈ wsMX4_readAll := by decide +kernel
theorem hm_m_X4_readAll_2 : (.fieldLink RX4 51 "OptimaWorks$Words" "kind" "I" : Cond) ∈ wsMX4_readAll := by decide +kernel
theorem hm_m_X4_readAll_3 : (.classLink RX4 95 "java/lang/IllegalArgumentException" : Cond) ∈ wsMX4_readAll := by decide +kernel
set_option maxHeartbeats 16000000 in
set_option maxRecDepth 100000 in
/-- all is read -/
theorem m_X4_readAll (l : Launch) (hst : l.stackTraces = false) (dC : Nat → ClassId) (dI : Nat → Nat → Nat) (hJ : Nat → Nat) (aJ : Nat → Nat) (kJ : Nat → ClassId) (hT : Nat → Nat) (hM : Nat → Nat) (hL : Nat → Nat) (iJ_used : Int32) (iJ_depth : Int32) (jJ_ownName : Int64) (gJ_binder : Nat → Int64) (iJ_binders : Int32) (iJ_firstSet : Int32) (iJ_secondSet : Int32) (aL : Nat → Nat) (kL : Nat → ClassId) (xL_tree : Value) (iL_names : Int32) (gL_key : Nat → Int64) (fL_kind : Nat → Int32) (fL_one : Nat → Int32) (fL_two : Nat → Int32) (fL_base : Nat → Int32) (iL_params : Int32) (fL_paramOver : Nat → Int32) (dL_paramOver : Nat) (nL_params : Nat) (fL_paramUnder : Nat → Int32) (dL_paramUnder : Nat) (nL_pu : Nat) (gL_over : Nat → Int64) (gL_under : Nat → Int64) (fL_bound : Nat → Int32) (iL_nameAt : Int32) (iL_startAt : Int32) (iL_steps : Int32) (jL_scaleOver : Int64) (jL_scaleUnder : Int64) (hF : Nat → Nat) (aF : Nat → Nat) (kF : Nat → ClassId) (dF_tree : Nat) (nF_tree : Nat) (fF_tree : Nat → Int32) (aT : Nat → Nat) (kT : Nat → ClassId) (fT_tape : Nat → Int32) (dT_tape : Nat) (nT_tape : Nat) (iT_length : Int32) (iT_fault : Int32) (iT_place : Int32) (iT_kind : Int32) (iT_at : Int32) (iT_number : Int32) (jT_name : Int64) (iT_next : Int32) (aM : Nat → Nat) (kM : Nat → ClassId) (iM_stands : Int32) (iM_variables : Int32) (iM_rows : Int32) (iM_goals : Int32) (iM_differents : Int32) (iM_cases : Int32) (fM_from : Nat → Int32) (fM_to : Nat → Int32) (fM_whole : Nat → Int32) (fM_ways : Nat → Int32) (iM_plainRows : Int32) (fM_plainRow : Nat → Int32) (fM_kept : Nat → Int32) (fM_goalOver : Nat → Int32) (fM_goalUnder : Nat → Int32) (fM_goalMax : Nat → Int32) (fM_different : Nat → Int32) (b_iJ_used : 0 ≤ iJ_used.toInt ∧ iJ_used.toInt ≤ 72200) (b_iJ_depth : 0 ≤ iJ_depth.toInt ∧ iJ_depth.toInt ≤ 25) (b_iJ_binders : 0 ≤ iJ_binders.toInt ∧ iJ_binders.toInt ≤ 64) (b_iJ_firstSet : (-1) ≤ iJ_firstSet.toInt ∧ iJ_firstSet.toInt ≤ 39) (b_iJ_secondSet : (-1) ≤ iJ_secondSet.toInt ∧ iJ_secondSet.toInt ≤ 39) (b_iL_names : 0 ≤ iL_names.toInt ∧ iL_names.toInt ≤ 40) (b_fL_kind : ∀ q : Nat, 0 ≤ (fL_kind q).toInt ∧ (fL_kind q).toInt ≤ 5) (b_fL_two : ∀ q : Nat, (-1) ≤ (fL_two q).toInt ∧ (fL_two q).toInt ≤ 39) (b_fL_base : ∀ q : Nat, 0 ≤ (fL_base q).toInt ∧ (fL_base q).toInt ≤ 2560) (b_iL_params : 0 ≤ iL_params.toInt ∧ iL_params.toInt ≤ 2560) (b_nL_params : 0 ≤ nL_params ∧ nL_params ≤ 2560) (b_nm : NmL iL_names fL_kind fL_one fL_two fL_base nL_params) (b_pm : iL_params.toInt ≤ ((nL_params : Nat) : Int)) (b_pu : nL_pu = nL_params) (b_nF_tree : 7 ≤ nF_tree ∧ nF_tree ≤ 72200) (b_fT_tape : ∀ q : Nat, (-128) ≤ (fT_tape q).toInt ∧ (fT_tape q).toInt ≤ 127) (b_nT_tape : 64 ≤ nT_tape ∧ nT_tape ≤ 2560) (b_iT_length : 0 ≤ iT_length.toInt ∧ iT_length.toInt ≤ 1280) (b_iT_at : 0 ≤ iT_at.toInt ∧ iT_at.toInt ≤ 1282) (b_iT_number : 0 ≤ iT_number.toInt ∧ iT_number.toInt ≤ 999999) (b_iT_next : 0 ≤ iT_next.toInt ∧ iT_next.toInt ≤ 1282) (b_len : iT_length.toInt ≤ ((nT_tape : Nat) : Int)) (b_iM_stands : 0 ≤ iM_stands.toInt ∧ iM_stands.toInt ≤ 1) (b_iM_variables : 0 ≤ iM_variables.toInt ∧ iM_variables.toInt ≤ 8) (b_iM_rows : 0 ≤ iM_rows.toInt ∧ iM_rows.toInt ≤ 12) (b_iM_goals : 0 ≤ iM_goals.toInt ∧ iM_goals.toInt ≤ 3) (b_iM_differents : 0 ≤ iM_differents.toInt ∧ iM_differents.toInt ≤ 8) (b_iM_cases : 0 ≤ iM_cases.toInt ∧ iM_cases.toInt ≤ 200000) (b_fM_ways : ∀ q : Nat, 0 ≤ (fM_ways q).toInt ∧ (fM_ways q).toInt ≤ 3) (b_iM_plainRows : 0 ≤ iM_plainRows.toInt ∧ iM_plainRows.toInt ≤ 12) (b_fM_plainRow : ∀ q : Nat, 0 ≤ (fM_plainRow q).toInt ∧ (fM_plainRow q).toInt ≤ 11) (b_pr : iM_plainRows.toInt ≤ iM_rows.toInt) (hc64 : iM_cases.toInt ≤ 64) (sz : Nat) : Met l yX4_readAll wsMX4_readAll ({ frames := 337, cells := 24027, slots := 448800, locals := 19729 }) (va_Pc [.ref (hJ 0)] (fun U => U.heap.size = sz ∧ va_P (dC, dI) vwCl (WJ hJ aJ kJ hT hM hL (.ref dF_tree) iJ_used iJ_depth jJ_ownName gJ_binder iJ_binders iJ_firstSet iJ_secondSet ++ (WL hL aL kL hT hM xL_tree iL_names gL_key fL_kind fL_one fL_two fL_base iL_params fL_paramOver dL_paramOver nL_params fL_paramUnder dL_paramUnder nL_pu gL_over gL_under fL_bound iL_nameAt iL_startAt iL_steps jL_scaleOver jL_scaleUnder ++ (WF hF aF kF dF_tree nF_tree fF_tree ++ (WT hT aT kT fT_tape dT_tape nT_tape iT_length iT_fault iT_place iT_kind iT_at iT_number jT_name iT_next ++ (WM hM aM kM iM_stands iM_variables iM_rows iM_goals iM_differents iM_cases fM_from fM_to fM_whole fM_ways iM_plainRows fM_plainRow fM_kept fM_goalOver fM_goalUnder fM_goalMax fM_different))))) U.heap ∧ va_K (dC, dI) vwCl (tJ kJ ++ (tL kL ++ (tF kF ++ (tT kT ++ (tM kM))))) U ∧ va_D (fun _ => True) (WJ hJ aJ kJ hT hM hL (.ref dF_tree) iJ_used iJ_depth jJ_ownName gJ_binder iJ_binders iJ_firstSet iJ_secondSet ++ (WL hL aL kL hT hM xL_tree iL_names gL_key fL_kind fL_one fL_two fL_base iL_params fL_paramOver dL_paramOver nL_params fL_paramUnder dL_paramUnder nL_pu gL_over gL_under fL_bound iL_nameAt iL_startAt iL_steps jL_scaleOver jL_scaleUnder ++ (WF hF aF kF dF_tree nF_tree fF_tree ++ (WT hT aT kT fT_tape dT_tape nT_tape iT_length iT_fault iT_place iT_kind iT_at iT_number jT_name iT_next ++ (WM hM aM kM iM_stands iM_variables iM_rows iM_goals iM_differents iM_cases fM_from fM_to fM_whole fM_ways iM_plainRows fM_plainRow fM_kept fM_goalOver fM_goalUnder fM_goalMax fM_different))))) ∧ CE (va_A (WJ hJ aJ kJ hT hM hL (.ref dF_tree) iJ_used iJ_depth jJ_ownName gJ_binder iJ_binders iJ_firstSet iJ_secondSet ++ (WL hL aL kL hT hM xL_tree iL_names gL_key fL_kind fL_one fL_two fL_base iL_params fL_paramOver dL_paramOver nL_params fL_paramUnder dL_paramUnder nL_pu gL_over gL_under fL_bound iL_nameAt iL_startAt iL_steps jL_scaleOver jL_scaleUnder ++ (WF hF aF kF dF_tree nF_tree fF_tree ++ (WT hT aT kT fT_tape dT_tape nT_tape iT_length iT_fault iT_place iT_kind iT_at iT_number jT_name iT_next ++ (WM hM aM kM iM_stands iM_variables iM_rows iM_goals iM_differents iM_cases fM_from fM_to fM_whole fM_ways iM_plainRows fM_plainRow fM_kept fM_goalOver fM_goalUnder fM_goalMax fM_different))))) sz) U U.heap)) (va_Qi (fun (r : Int32) (u : (Int32) × (Int32) × (Int64) × (Nat → Int64) × (Int32) × (Int32) × (Int32) × (Value) × (Int32) × (Nat → Int64) × (Nat → Int32) × (Nat → Int32) × (Nat → Int32) × (Nat → Int32) × (Int32) × (Nat → Int32) × (Nat) × (Nat) × (Nat → Int32) × (Nat) × (Nat) × (Nat → Int64) × (Nat → Int64) × (Nat → Int32) × (Int32) × (Int32) × (Int32) × (Int64) × (Int64) × (Nat) × (Nat) × (Nat → Int32) × (Int32) × (Int32) × (Int32) × (Int32) × (Int32) × (Int64) × (Int32) × (Int32) × (Int32) × (Int32) × (Int32) × (Int32) × (Nat → Int32) × (Nat → Int32) × (Nat → Int32) × (Nat → Int32) × (Int32) × (Nat → Int32) × (Nat → Int32) × (Nat → Int32) × (Nat → Int32) × (Nat → Int32) × (Nat → Int32)) => (0 ≤ (u.1).toInt ∧ (u.1).toInt ≤ 72200) ∧ (0 ≤ (u.2.1).toInt ∧ (u.2.1).toInt ≤ 25) ∧ (0 ≤ (u.2.2.2.2.1).toInt ∧ (u.2.2.2.2.1).toInt ≤ 64) ∧ ((-1) ≤ (u.2.2.2.2.2.1).toInt ∧ (u.2.2.2.2.2.1).toInt ≤ 39) ∧ ((-1) ≤ (u.2.2.2.2.2.2.1).toInt ∧ (u.2.2.2.2.2.2.1).toInt ≤ 39) ∧ (0 ≤ (u.2.2.2.2.2.2.2.2.1).toInt ∧ (u.2.2.2.2.2.2.2.2.1).toInt ≤ 40) ∧ (∀ q : Nat, 0 ≤ ((u.2.2.2.2.2.2.2.2.2.2.1) q).toInt ∧ ((u.2.2.2.2.2.2.2.2.2.2.1) q).toInt ≤ 5) ∧ (∀ q : Nat, (-1) ≤ ((u.2.2.2.2.2.2.2.2.2.2.2.2.1) q).toInt ∧ ((u.2.2.2.2.2.2.2.2.2.2.2.2.1) q).toInt ≤ 39) ∧ (∀ q : Nat, 0 ≤ ((u.2.2.2.2.2.2.2.2.2.2.2.2.2.1) q).toInt ∧ ((u.2.2.2.2.2.2.2.2.2.2.2.2.2.1) q).toInt ≤ 2560) ∧ (0 ≤ (u.2.2.2.2.2.2.2.2.2.2.2.2.2.2.1).toInt ∧ (u.2.2.2.2.2.2.2.2.2.2.2.2.2.2.1).toInt ≤ 2560) ∧ (0 ≤ (u.2.2.2.2.2.2.2.2.2.2.2.2.2.2.2.2.2.1) ∧ (u.2.2.2.2.2.2.2.2.2.2.2.2.2.2.2.2.2.1) ≤ 2560) ∧ (7 ≤ (u.2.2.2.2.2.2.2.2.2.2.2.2.2.2.2.2.2.2.2.2.2.2.2.2.2.2.2.2.2.2.1) ∧ (u.2.2.2.2.2.2.2.2.2.2.2.2.2.2.2.2.2.2.2.2.2.2.2.2.2.2.2.2.2.2.1) ≤ 72200) ∧ (0 ≤ (u.2.2.2.2.2.2.2.2.2.2.2.2.2.2.2.2.2.2.2.2.2.2.2.2.2.2.2.2.2.2.2.2.2.2.2.1).toInt ∧ (u.2.2.2.2.2.2.2.2.2.2.2.2.2.2.2.2.2.2.2.2.2.2.2.2.2.2.2.2.2.2.2.2.2.2.2.1).toInt ≤ 1282) ∧ (0 ≤ (u.2.2.2.2.2.2.2.2.2.2.2.2.2.2.2.2.2.2.2.2.2.2.2.2.2.2.2.2.2.2.2.2.2.2.2.2.1).toInt ∧ (u.2.2.2.2.2.2.2.2.2.2.2.2.2.2.2.2.2.2.2.2.2.2.2.2.2.2.2.2.2.2.2.2.2.2.2.2.1).toInt ≤ 999999) ∧ (0 ≤ (u.2.2.2.2.2.2.2.2.2.2.2.2.2.2.2.2.2.2.2.2.2.2.2.2.2.2.2.2.2.2.2.2.2.2.2.2.2.2.1).toInt ∧ (u.2.2.2.2.2.2.2.2.2.2.2.2.2.2.2.2.2.2.2.2.2.2.2.2.2.2.2.2.2.2.2.2.2.2.2.2.2.2.1).toInt ≤ 1282) ∧ (0 ≤ (u.2.2.2.2.2.2.2.2.2.2.2.2.2.2.2.2.2.2.2.2.2.2.2.2.2.2.2.2.2.2.2.2.2.2.2.2.2.2.2.1).toInt ∧ (u.2.2.2.2.2.2.2.2.2.2.2.2.2.2.2.2.2.2.2.2.2.2.2.2.2.2.2.2.2.2.2.2.2.2.2.2.2.2.2.1).toInt ≤ 8) ∧ (0 ≤ (u.2.2.2.2.2.2.2.2.2.2.2.2.2.2.2.2.2.2.2.2.2.2.2.2.2.2.2.2.2.2.2.2.2.2.2.2.2.2.2.2.1).toInt ∧ (u.2.2.2.2.2.2.2.2.2.2.2.2.2.2.2.2.2.2.2.2.2.2.2.2.2.2.2.2.2.2.2.2.2.2.2.2.2.2.2.2.1).toInt ≤ 12) ∧ (0 ≤ (u.2.2.2.2.2.2.2.2.2.2.2.2.2.2.2.2.2.2.2.2.2.2.2.2.2.2.2.2.2.2.2.2.2.2.2.2.2.2.2.2.2.1).toInt ∧ (u.2.2.2.2.2.2.2.2.2.2.2.2.2.2.2.2.2.2.2.2.2.2.2.2.2.2.2.2.2.2.2.2.2.2.2.2.2.2.2.2.2.1).toInt ≤ 3) ∧ (0 ≤ (u.2.2.2.2.2.2.2.2.2.2.2.2.2.2.2.2.2.2.2.2.2.2.2.2.2.2.2.2.2.2.2.2.2.2.2.2.2.2.2.2.2.2.1).toInt ∧ (u.2.2.2.2.2.2.2.2.2.2.2.2.2.2.2.2.2.2.2.2.2.2.2.2.2.2.2.2.2.2.2.2.2.2.2.2.2.2.2.2.2.2.1).toInt ≤ 8) ∧ (0 ≤ (u.2.2.2.2.2.2.2.2.2.2.2.2.2.2.2.2.2.2.2.2.2.2.2.2.2.2.2.2.2.2.2.2.2.2.2.2.2.2.2.2.2.2.2.1).toInt ∧ (u.2.2.2.2.2.2.2.2.2.2.2.2.2.2.2.2.2.2.2.2.2.2.2.2.2.2.2.2.2.2.2.2.2.2.2.2.2.2.2.2.2.2.2.1).toInt ≤ 200000) ∧ (∀ q : Nat, 0 ≤ ((u.2.2.2.2.2.2.2.2.2.2.2.2.2.2.2.2.2.2.2.2.2.2.2.2.2.2.2.2.2.2.2.2.2.2.2.2.2.2.2.2.2.2.2.2.2.2.2.1) q).toInt ∧ ((u.2.2.2.2.2.2.2.2.2.2.2.2.2.2.2.2.2.2.2.2.2.2.2.2.2.2.2.2.2.2.2.2.2.2.2.2.2.2.2.2.2.2.2.2.2.2.2.1) q).toInt ≤ 3) ∧ (0 ≤ (u.2.2.2.2.2.2.2.2.2.2.2.2.2.2.2.2.2.2.2.2.2.2.2.2.2.2.2.2.2.2.2.2.2.2.2.2.2.2.2.2.2.2.2.2.2.2.2.2.1).toInt ∧ (u.2.2.2.2.2.2.2.2.2.2.2.2.2.2.2.2.2.2.2.2.2.2.2.2.2.2.2.2.2.2.2.2.2.2.2.2.2.2.2.2.2.2.2.2.2.2.2.2.1).toInt ≤ 12) ∧ (∀ q : Nat, 0 ≤ ((u.2.2.2.2.2.2.2.2.2.2.2.2.2.2.2.2.2.2.2.2.2.2.2.2.2.2.2.2.2.2.2.2.2.2.2.2.2.2.2.2.2.2.2.2.2.2.2.2.2.1) q).toInt ∧ ((u.2.2.2.2.2.2.2.2.2.2.2.2.2.2.2.2.2.2.2.2.2.2.2.2.2.2.2.2.2.2.2.2.2.2.2.2.2.2.2.2.2.2.2.2.2.2.2.2.2.1) q).toInt ≤ 11) ∧ (NmL (u.2.2.2.2.2.2.2.2.1) (u.2.2.2.2.2.2.2.2.2.2.1) (u.2.2.2.2.2.2.2.2.2.2.2.1) (u.2.2.2.2.2.2.2.2.2.2.2.2.1) (u.2.2.2.2.2.2.2.2.2.2.2.2.2.1) (u.2.2.2.2.2.2.2.2.2.2.2.2.2.2.2.2.2.1)) ∧ ((u.2.2.2.2.2.2.2.2.2.2.2.2.2.2.1).toInt ≤ (((u.2.2.2.2.2.2.2.2.2.2.2.2.2.2.2.2.2.1) : Nat) : Int)) ∧ ((u.2.2.2.2.2.2.2.2.2.2.2.2.2.2.2.2.2.2.2.2.1) = (u.2.2.2.2.2.2.2.2.2.2.2.2.2.2.2.2.2.1)) ∧ ((u.2.2.2.2.2.2.2.2.2.2.2.2.2.2.2.2.2.2.2.2.2.2.2.2.2.2.2.2.2.2.2.2.2.2.2.2.2.2.2.2.2.2.2.2.2.2.2.2.1).toInt ≤ (u.2.2.2.2.2.2.2.2.2.2.2.2.2.2.2.2.2.2.2.2.2.2.2.2.2.2.2.2.2.2.2.2.2.2.2.2.2.2.2.2.1).toInt) ∧ (0 ≤ r.toInt ∧ r.toInt ≤ 1) ∧ (nF_tree ≤ (u.2.2.2.2.2.2.2.2.2.2.2.2.2.2.2.2.2.2.2.2.2.2.2.2.2.2.2.2.2.2.1)) ∧ (nL_params ≤ (u.2.2.2.2.2.2.2.2.2.2.2.2.2.2.2.2.2.1)) ∧ (r.toInt ≠ 0 → (u.2.2.2.2.2.2.2.2.2.2.2.2.2.2.2.2.2.2.2.2.2.2.2.2.2.2.2.2.2.2.2.2.2.2.2.2.2.2.2.2.2.2.2.1).toInt ≤ 64)) (fun (u : (Int32) × (Int32) × (Int64) × (Nat → Int64) × (Int32) × (Int32) × (Int32) × (Value) × (Int32) × (Nat → Int64) × (Nat → Int32) × (Nat → Int32) × (Nat → Int32) × (Nat → Int32) × (Int32) × (Nat → Int32) × (Nat) × (Nat) × (Nat → Int32) × (Nat) × (Nat) × (Nat → Int64) × (Nat → Int64) × (Nat → Int32) × (Int32) × (Int32) × (Int32) × (Int64) × (Int64) × (Nat) × (Nat) × (Nat → Int32) × (Int32) × (Int32) × (Int32) × (Int32) × (Int32) × (Int64) × (Int32) × (Int32) × (Int32) × (Int32) × (Int32) × (Int32) × (Nat → Int32) × (Nat → Int32) × (Nat → Int32) × (Nat → Int32) × (Int32) × (Nat → Int32) × (Nat → Int32) × (Nat → Int32) × (Nat → Int32) × (Nat → Int32) × (Nat → Int32)) t => va_P (dC, dI) vwCl (WJ hJ aJ kJ hT hM hL (.ref (u.2.2.2.2.2.2.2.2.2.2.2.2.2.2.2.2.2.2.2.2.2.2.2.2.2.2.2.2.2.1)) (u.1) (u.2.1) (u.2.2.1) (u.2.2.2.1) (u.2.2.2.2.1) (u.2.2.2.2.2.1) (u.2.2.2.2.2.2.1) ++ (WL hL aL kL hT hM (u.2.2.2.2.2.2.2.1) (u.2.2.2.2.2.2.2.2.1) (u.2.2.2.2.2.2.2.2.2.1) (u.2.2.2.2.2.2.2.2.2.2.1) (u.2.2.2.2.2.2.2.2.2.2.2.1) (u.2.2.2.2.2.2.2.2.2.2.2.2.1) (u.2.2.2.2.2.2.2.2.2.2.2.2.2.1) (u.2.2.2.2.2.2.2.2.2.2.2.2.2.2.1) (u.2.2.2.2.2.2.2.2.2.2.2.2.2.2.2.1) (u.2.2.2.2.2.2.2.2.2.2.2.2.2.2.2.2.1) (u.2.2.2.2.2.2.2.2.2.2.2.2.2.2.2.2.2.1) (u.2.2.2.2.2.2.2.2.2.2.2.2.2.2.2.2.2.2.1) (u.2.2.2.2.2.2.2.2.2.2.2.2.2.2.2.2.2.2.2.1) (u.2.2.2.2.2.2.2.2.2.2.2.2.2.2.2.2.2.2.2.2.1) (u.2.2.2.2.2.2.2.2.2.2.2.2.2.2.2.2.2.2.2.2.2.1) (u.2.2.2.2.2.2.2.2.2.2.2.2.2.2.2.2.2.2.2.2.2.2.1) (u.2.2.2.2.2.2.2.2.2.2.2.2.2.2.2.2.2.2.2.2.2.2.2.1) (u.2.2.2.2.2.2.2.2.2.2.2.2.2.2.2.2.2.2.2.2.2.2.2.2.1) (u.2.2.2.2.2.2.2.2.2.2.2.2.2.2.2.2.2.2.2.2.2.2.2.2.2.1) (u.2.2.2.2.2.2.2.2.2.2.2.2.2.2.2.2.2.2.2.2.2.2.2.2.2.2.1) (u.2.2.2.2.2.2.2.2.2.2.2.2.2.2.2.2.2.2.2.2.2.2.2.2.2.2.2.1) (u.2.2.2.2.2.2.2.2.2.2.2.2.2.2.2.2.2.2.2.2.2.2.2.2.2.2.2.2.1) ++ (WF hF aF kF (u.2.2.2.2.2.2.2.2.2.2.2.2.2.2.2.2.2.2.2.2.2.2.2.2.2.2.2.2.2.1) (u.2.2.2.2.2.2.2.2.2.2.2.2.2.2.2.2.2.2.2.2.2.2.2.2.2.2.2.2.2.2.1) (u.2.2.2.2.2.2.2.2.2.2.2.2.2.2.2.2.2.2.2.2.2.2.2.2.2.2.2.2.2.2.2.1) ++ (WT hT aT kT fT_tape dT_tape nT_tape iT_length (u.2.2.2.2.2.2.2.2.2.2.2.2.2.2.2.2.2.2.2.2.2.2.2.2.2.2.2.2.2.2.2.2.1) (u.2.2.2.2.2.2.2.2.2.2.2.2.2.2.2.2.2.2.2.2.2.2.2.2.2.2.2.2.2.2.2.2.2.1) (u.2.2.2.2.2.2.2.2.2.2.2.2.2.2.2.2.2.2.2.2.2.2.2.2.2.2.2.2.2.2.2.2.2.2.1) (u.2.2.2.2.2.2.2.2.2.2.2.2.2.2.2.2.2.2.2.2.2.2.2.2.2.2.2.2.2.2.2.2.2.2.2.1) (u.2.2.2.2.2.2.2.2.2.2.2.2.2.2.2.2.2.2.2.2.2.2.2.2.2.2.2.2.2.2.2.2.2.2.2.2.1) (u.2.2.2.2.2.2.2.2.2.2.2.2.2.2.2.2.2.2.2.2.2.2.2.2.2.2.2.2.2.2.2.2.2.2.2.2.2.1) (u.2.2.2.2.2.2.2.2.2.2.2.2.2.2.2.2.2.2.2.2.2.2.2.2.2.2.2.2.2.2.2.2.2.2.2.2.2.2.1) ++ (WM hM aM kM iM_stands (u.2.2.2.2.2.2.2.2.2.2.2.2.2.2.2.2.2.2.2.2.2.2.2.2.2.2.2.2.2.2.2.2.2.2.2.2.2.2.2.1) (u.2.2.2.2.2.2.2.2.2.2.2.2.2.2.2.2.2.2.2.2.2.2.2.2.2.2.2.2.2.2.2.2.2.2.2.2.2.2.2.2.1) (u.2.2.2.2.2.2.2.2.2.2.2.2.2.2.2.2.2.2.2.2.2.2.2.2.2.2.2.2.2.2.2.2.2.2.2.2.2.2.2.2.2.1) (u.2.2.2.2.2.2.2.2.2.2.2.2.2.2.2.2.2.2.2.2.2.2.2.2.2.2.2.2.2.2.2.2.2.2.2.2.2.2.2.2.2.2.1) (u.2.2.2.2.2.2.2.2.2.2.2.2.2.2.2.2.2.2.2.2.2.2.2.2.2.2.2.2.2.2.2.2.2.2.2.2.2.2.2.2.2.2.2.1) (u.2.2.2.2.2.2.2.2.2.2.2.2.2.2.2.2.2.2.2.2.2.2.2.2.2.2.2.2.2.2.2.2.2.2.2.2.2.2.2.2.2.2.2.2.1) (u.2.2.2.2.2.2.2.2.2.2.2.2.2.2.2.2.2.2.2.2.2.2.2.2.2.2.2.2.2.2.2.2.2.2.2.2.2.2.2.2.2.2.2.2.2.1) (u.2.2.2.2.2.2.2.2.2.2.2.2.2.2.2.2.2.2.2.2.2.2.2.2.2.2.2.2.2.2.2.2.2.2.2.2.2.2.2.2.2.2.2.2.2.2.1) (u.2.2.2.2.2.2.2.2.2.2.2.2.2.2.2.2.2.2.2.2.2.2.2.2.2.2.2.2.2.2.2.2.2.2.2.2.2.2.2.2.2.2.2.2.2.2.2.1) (u.2.2.2.2.2.2.2.2.2.2.2.2.2.2.2.2.2.2.2.2.2.2.2.2.2.2.2.2.2.2.2.2.2.2.2.2.2.2.2.2.2.2.2.2.2.2.2.2.1) (u.2.2.2.2.2.2.2.2.2.2.2.2.2.2.2.2.2.2.2.2.2.2.2.2.2.2.2.2.2.2.2.2.2.2.2.2.2.2.2.2.2.2.2.2.2.2.2.2.2.1) (u.2.2.2.2.2.2.2.2.2.2.2.2.2.2.2.2.2.2.2.2.2.2.2.2.2.2.2.2.2.2.2.2.2.2.2.2.2.2.2.2.2.2.2.2.2.2.2.2.2.2.1) (u.2.2.2.2.2.2.2.2.2.2.2.2.2.2.2.2.2.2.2.2.2.2.2.2.2.2.2.2.2.2.2.2.2.2.2.2.2.2.2.2.2.2.2.2.2.2.2.2.2.2.2.1) (u.2.2.2.2.2.2.2.2.2.2.2.2.2.2.2.2.2.2.2.2.2.2.2.2.2.2.2.2.2.2.2.2.2.2.2.2.2.2.2.2.2.2.2.2.2.2.2.2.2.2.2.2.1) (u.2.2.2.2.2.2.2.2.2.2.2.2.2.2.2.2.2.2.2.2.2.2.2.2.2.2.2.2.2.2.2.2.2.2.2.2.2.2.2.2.2.2.2.2.2.2.2.2.2.2.2.2.2.1) (u.2.2.2.2.2.2.2.2.2.2.2.2.2.2.2.2.2.2.2.2.2.2.2.2.2.2.2.2.2.2.2.2.2.2.2.2.2.2.2.2.2.2.2.2.2.2.2.2.2.2.2.2.2.2)))))) t.heap ∧ va_D (va_A (WJ hJ aJ kJ hT hM hL (.ref dF_tree) iJ_used iJ_depth jJ_ownName gJ_binder iJ_binders iJ_firstSet iJ_secondSet ++ (WL hL aL kL hT hM xL_tree iL_names gL_key fL_kind fL_one fL_two fL_base iL_params fL_paramOver dL_paramOver nL_params fL_paramUnder dL_paramUnder nL_pu gL_over gL_under fL_bound iL_nameAt iL_startAt iL_steps jL_scaleOver jL_scaleUnder ++ (WF hF aF kF dF_tree nF_tree fF_tree ++ (WT hT aT kT fT_tape dT_tape nT_tape iT_length iT_fault iT_place iT_kind iT_at iT_number jT_name iT_next ++ (WM hM aM kM iM_stands iM_variables iM_rows iM_goals iM_differents iM_cases fM_from fM_to fM_whole fM_ways iM_plainRows fM_plainRow fM_kept fM_goalOver fM_goalUnder fM_goalMax fM_different))))) sz) (WJ hJ aJ kJ hT hM hL (.ref (u.2.2.2.2.2.2.2.2.2.2.2.2.2.2.2.2.2.2.2.2.2.2.2.2.2.2.2.2.2.1)) (u.1) (u.2.1) (u.2.2.1) (u.2.2.2.1) (u.2.2.2.2.1) (u.2.2.2.2.2.1) (u.2.2.2.2.2.2.1) ++ (WL hL aL kL hT hM (u.2.2.2.2.2.2.2.1) (u.2.2.2.2.2.2.2.2.1) (u.2.2.2.2.2.2.2.2.2.1) (u.2.2.2.2.2.2.2.2.2.2.1) (u.2.2.2.2.2.2.2.2.2.2.2.1) (u.2.2.2.2.2.2.2.2.2.2.2.2.1) (u.2.2.2.2.2.2.2.2.2.2.2.2.2.1) (u.2.2.2.2.2.2.2.2.2.2.2.2.2.2.1) (u.2.2.2.2.2.2.2.2.2.2.2.2.2.2.2.1) (u.2.2.2.2.2.2.2.2.2.2.2.2.2.2.2.2.1) (u.2.2.2.2.2.2.2.2.2.2.2.2.2.2.2.2.2.1) (u.2.2.2.2.2.2.2.2.2.2.2.2.2.2.2.2.2.2.1) (u.2.2.2.2.2.2.2.2.2.2.2.2.2.2.2.2.2.2.2.1) (u.2.2.2.2.2.2.2.2.2.2.2.2.2.2.2.2.2.2.2.2.1) (u.2.2.2.2.2.2.2.2.2.2.2.2.2.2.2.2.2.2.2.2.2.1) (u.2.2.2.2.2.2.2.2.2.2.2.2.2.2.2.2.2.2.2.2.2.2.1) (u.2.2.2.2.2.2.2.2.2.2.2.2.2.2.2.2.2.2.2.2.2.2.2.1) (u.2.2.2.2.2.2.2.2.2.2.2.2.2.2.2.2.2.2.2.2.2.2.2.2.1) (u.2.2.2.2.2.2.2.2.2.2.2.2.2.2.2.2.2.2.2.2.2.2.2.2.2.1) (u.2.2.2.2.2.2.2.2.2.2.2.2.2.2.2.2.2.2.2.2.2.2.2.2.2.2.1) (u.2.2.2.2.2.2.2.2.2.2.2.2.2.2.2.2.2.2.2.2.2.2.2.2.2.2.2.1) (u.2.2.2.2.2.2.2.2.2.2.2.2.2.2.2.2.2.2.2.2.2.2.2.2.2.2.2.2.1) ++ (WF hF aF kF (u.2.2.2.2.2.2.2.2.2.2.2.2.2.2.2.2.2.2.2.2.2.2.2.2.2.2.2.2.2.1) (u.2.2.2.2.2.2.2.2.2.2.2.2.2.2.2.2.2.2.2.2.2.2.2.2.2.2.2.2.2.2.1) (u.2.2.2.2.2.2.2.2.2.2.2.2.2.2.2.2.2.2.2.2.2.2.2.2.2.2.2.2.2.2.2.1) ++ (WT hT aT kT fT_tape dT_tape nT_tape iT_length (u.2.2.2.2.2.2.2.2.2.2.2.2.2.2.2.2.2.2.2.2.2.2.2.2.2.2.2.2.2.2.2.2.1) (u.2.2.2.2.2.2.2.2.2.2.2.2.2.2.2.2.2.2.2.2.2.2.2.2.2.2.2.2.2.2.2.2.2.1) (u.2.2.2.2.2.2.2.2.2.2.2.2.2.2.2.2.2.2.2.2.2.2.2.2.2.2.2.2.2.2.2.2.2.2.1) (u.2.2.2.2.2.2.2.2.2.2.2.2.2.2.2.2.2.2.2.2.2.2.2.2.2.2.2.2.2.2.2.2.2.2.2.1) (u.2.2.2.2.2.2.2.2.2.2.2.2.2.2.2.2.2.2.2.2.2.2.2.2.2.2.2.2.2.2.2.2.2.2.2.2.1) (u.2.2.2.2.2.2.2.2.2.2.2.2.2.2.2.2.2.2.2.2.2.2.2.2.2.2.2.2.2.2.2.2.2.2.2.2.2.1) (u.2.2.2.2.2.2.2.2.2.2.2.2.2.2.2.2.2.2.2.2.2.2.2.2.2.2.2.2.2.2.2.2.2.2.2.2.2.2.1) ++ (WM hM aM kM iM_stands (u.2.2.2.2.2.2.2.2.2.2.2.2.2.2.2.2.2.2.2.2.2.2.2.2.2.2.2.2.2.2.2.2.2.2.2.2.2.2.2.1) (u.2.2.2.2.2.2.2.2.2.2.2.2.2.2.2.2.2.2.2.2.2.2.2.2.2.2.2.2.2.2.2.2.2.2.2.2.2.2.2.2.1) (u.2.2.2.2.2.2.2.2.2.2.2.2.2.2.2.2.2.2.2.2.2.2.2.2.2.2.2.2.2.2.2.2.2.2.2.2.2.2.2.2.2.1) (u.2.2.2.2.2.2.2.2.2.2.2.2.2.2.2.2.2.2.2.2.2.2.2.2.2.2.2.2.2.2.2.2.2.2.2.2.2.2.2.2.2.2.1) (u.2.2.2.2.2.2.2.2.2.2.2.2.2.2.2.2.2.2.2.2.2.2.2.2.2.2.2.2.2.2.2.2.2.2.2.2.2.2.2.2.2.2.2.1) (u.2.2.2.2.2.2.2.2.2.2.2.2.2.2.2.2.2.2.2.2.2.2.2.2.2.2.2.2.2.2.2.2.2.2.2.2.2.2.2.2.2.2.2.2.1) (u.2.2.2.2.2.2.2.2.2.2.2.2.2.2.2.2.2.2.2.2.2.2.2.2.2.2.2.2.2.2.2.2.2.2.2.2.2.2.2.2.2.2.2.2.2.1) (u.2.2.2.2.2.2.2.2.2.2.2.2.2.2.2.2.2.2.2.2.2.2.2.2.2.2.2.2.2.2.2.2.2.2.2.2.2.2.2.2.2.2.2.2.2.2.1) (u.2.2.2.2.2.2.2.2.2.2.2.2.2.2.2.2.2.2.2.2.2.2.2.2.2.2.2.2.2.2.2.2.2.2.2.2.2.2.2.2.2.2.2.2.2.2.2.1) (u.2.2.2.2.2.2.2.2.2.2.2.2.2.2.2.2.2.2.2.2.2.2.2.2.2.2.2.2.2.2.2.2.2.2.2.2.2.2.2.2.2.2.2.2.2.2.2.2.1) (u.2.2.2.2.2.2.2.2.2.2.2.2.2.2.2.2.2.2.2.2.2.2.2.2.2.2.2.2.2.2.2.2.2.2.2.2.2.2.2.2.2.2.2.2.2.2.2.2.2.1) (u.2.2.2.2.2.2.2.2.2.2.2.2.2.2.2.2.2.2.2.2.2.2.2.2.2.2.2.2.2.2.2.2.2.2.2.2.2.2.2.2.2.2.2.2.2.2.2.2.2.2.1) (u.2.2.2.2.2.2.2.2.2.2.2.2.2.2.2.2.2.2.2.2.2.2.2.2.2.2.2.2.2.2.2.2.2.2.2.2.2.2.2.2.2.2.2.2.2.2.2.2.2.2.2.1) (u.2.2.2.2.2.2.2.2.2.2.2.2.2.2.2.2.2.2.2.2.2.2.2.2.2.2.2.2.2.2.2.2.2.2.2.2.2.2.2.2.2.2.2.2.2.2.2.2.2.2.2.2.1) (u.2.2.2.2.2.2.2.2.2.2.2.2.2.2.2.2.2.2.2.2.2.2.2.2.2.2.2.2.2.2.2.2.2.2.2.2.2.2.2.2.2.2.2.2.2.2.2.2.2.2.2.2.2.1) (u.2.2.2.2.2.2.2.2.2.2.2.2.2.2.2.2.2.2.2.2.2.2.2.2.2.2.2.2.2.2.2.2.2.2.2.2.2.2.2.2.2.2.2.2.2.2.2.2.2.2.2.2.2.2)))))) ∧ t.heap.size + (nF_tree / 8 + 2 * nL_params) ≤ sz + ((u.2.2.2.2.2.2.2.2.2.2.2.2.2.2.2.2.2.2.2.2.2.2.2.2.2.2.2.2.2.2.1) / 8 + 2 * (u.2.2.2.2.2.2.2.2.2.2.2.2.2.2.2.2.2.1)) + 1 ∧ nS sz t.heap + (2 * nF_tree + 4 * nL_params) ≤ (2 * (u.2.2.2.2.2.2.2.2.2.2.2.2.2.2.2.2.2.2.2.2.2.2.2.2.2.2.2.2.2.2.1) + 4 * (u.2.2.2.2.2.2.2.2.2.2.2.2.2.2.2.2.2.1)) + 6) (va_A (WJ hJ aJ kJ hT hM hL (.ref dF_tree) iJ_used iJ_depth jJ_ownName gJ_binder iJ_binders iJ_firstSet iJ_secondSet ++ (WL hL aL kL hT hM xL_tree iL_names gL_key fL_kind fL_one fL_two fL_base iL_params fL_paramOver dL_paramOver nL_params fL_paramUnder dL_paramUnder nL_pu gL_over gL_under fL_bound iL_nameAt iL_startAt iL_steps jL_scaleOver jL_scaleUnder ++ (WF hF aF kF dF_tree nF_tree fF_tree ++ (WT hT aT kT fT_tape dT_tape nT_tape iT_length iT_fault iT_place iT_kind iT_at iT_number jT_name iT_next ++ (WM hM aM kM iM_stands iM_variables iM_rows iM_goals iM_differents iM_cases fM_from fM_to fM_whole fM_ways iM_plainRows fM_plainRow fM_kept fM_goalOver fM_goalUnder fM_goalMax fM_different))))) sz)) 24027 448800 (va_A (WJ hJ aJ kJ hT hM hL (.ref dF_tree) iJ_used iJ_depth jJ_ownName gJ_binder iJ_binders iJ_firstSet iJ_secondSet ++ (WL hL aL kL hT hM xL_tree iL_names gL_key fL_kind fL_one fL_two fL_base iL_params fL_paramOver dL_paramOver nL_params fL_paramUnder dL_paramUnder nL_pu gL_over gL_under fL_bound iL_nameAt iL_startAt iL_steps jL_scaleOver jL_scaleUnder ++ (WF hF aF kF dF_tree nF_tree fF_tree ++ (WT hT aT kT fT_tape dT_tape nT_tape iT_length iT_fault iT_place iT_kind iT_at iT_number jT_name iT_next ++ (WM hM aM kM iM_stands iM_variables iM_rows iM_goals iM_differents iM_cases fM_from fM_to fM_whole fM_ways iM_plainRows fM_plainRow fM_kept fM_goalOver fM_goalUnder fM_goalMax fM_different))))) sz) := by
  refine ofWC (hh := [(29, 224, 225, 95)]) (cc := cX4_readAll) (maxL := 2) (ret := (some .boolean)) (by decide) rfl ?_
  intro p e s m args below meth c s₁ B hml hv
  obtain ⟨rfl, hsz, hP, hK, hD0, hE⟩ := hv
  have hx := B.exec
  have hb := B.bytes
  have hr := B.returns
  have hts := atoms_spec (ws := wsMX4_readAll) B.pre
  have hown : s.vm.findClass RX4 = some m.cls := findClass_of_methodNamed B.named
  have hlocks := B.notSynchronized
  have htb : c.exceptionTable.toList = tableOf [(29, 224, 225, 95)] := vx_table (x := yX4_readAll) B (hts _ List.mem_cons_self)
  subst hsz
  have hD := hD0.self (sz := s.heap.size)
  generalize hAe : va_A (WJ hJ aJ kJ hT hM hL (.ref dF_tree) iJ_used iJ_depth jJ_ownName gJ_binder iJ_binders iJ_firstSet iJ_secondSet ++ (WL hL aL kL hT hM xL_tree iL_names gL_key fL_kind fL_one fL_two fL_base iL_params fL_paramOver dL_paramOver nL_params fL_paramUnder dL_paramUnder nL_pu gL_over gL_under fL_bound iL_nameAt iL_startAt iL_steps jL_scaleOver jL_scaleUnder ++ (WF hF aF kF dF_tree nF_tree fF_tree ++ (WT hT aT kT fT_tape dT_tape nT_tape iT_length iT_fault iT_place iT_kind iT_at iT_number jT_name iT_next ++ (WM hM aM kM iM_stands iM_variables iM_rows iM_goals iM_differents iM_cases fM_from fM_to fM_whole fM_ways iM_plainRows fM_plainRow fM_kept fM_goalOver fM_goalUnder fM_goalMax fM_different))))) s.heap.size = A at hD hE ⊢
  have hA : ∀ q : Nat, s.heap.size ≤ q → A q := fun q h => by rw [← hAe]; exact Or.inr h
  have hS : va_S A s.heap s.heap [] := va_S.rf
  have hl := lv_entry ([.ref (hJ 0)]) (n := 2) (Nat.le_of_ble_eq_true rfl)
  rw [lg_entry_eq]
  generalize (lg_sl ([.ref (hJ 0)]) ++ List.replicate (2 - (lg_sl ([.ref (hJ 0)])).length) Slot.unset).toArray = ls at hl ⊢
  have hl : lv_has ls 2 [(0, .ref (hJ 0))] := hl
  refine W.widen (k := (nF_tree / 8 + 2 * nL_params - (nF_tree / 8 + 2 * nL_params))) (n := (2 * nF_tree + 4 * nL_params - (2 * nF_tree + 4 * nL_params))) (Nat.zero_le _) (Nat.zero_le _) ?_
  refine lv_aload_n hx hb dX4_readAll_0 rfl (lv_at hl 0 rfl) ?_
  refine W.known (fun hz0 hn0 => ?_)
  have hS0 := hS.1
  have p9 := cj_5_0_2_3 (WJ hJ aJ kJ hT hM hL (.ref dF_tree) iJ_used iJ_depth jJ_ownName gJ_binder iJ_binders iJ_firstSet iJ_secondSet) (WL hL aL kL hT hM xL_tree iL_names gL_key fL_kind fL_one fL_two fL_base iL_params fL_paramOver dL_paramOver nL_params fL_paramUnder dL_paramUnder nL_pu gL_over gL_under fL_bound iL_nameAt iL_startAt iL_steps jL_scaleOver jL_scaleUnder) (WF hF aF kF dF_tree nF_tree fF_tree) (WT hT aT kT fT_tape dT_tape nT_tape iT_length iT_fault iT_place iT_kind iT_at iT_number jT_name iT_next) (WM hM aM kM iM_stands iM_variables iM_rows iM_goals iM_differents iM_cases fM_from fM_to fM_whole fM_ways iM_plainRows fM_plainRow fM_kept fM_goalOver fM_goalUnder fM_goalMax fM_different)
  have hPc := hP.mem (fun q h => p9.mem_iff.mpr (List.mem_append_left _ h))
  have hDc := (hD.perm p9).left
  have hKc : va_K (dC, dI) vwCl (tJ kJ ++ (tF kF ++ (tT kT))) _ := hK.sub [0, 11, 12] rfl
  have hFc := freeG p9 hD hS hA
  refine va_callv (va_runV (As := []) (rest := []) ⟨hx, hb, hml, hown, hts⟩ (Met.sV (m_X4_makeRoom l dC dI hJ aJ kJ hT hM hL iJ_used iJ_depth jJ_ownName gJ_binder iJ_binders iJ_firstSet iJ_secondSet hF aF kF dF_tree nF_tree fF_tree aT kT fT_tape dT_tape nT_tape iT_length iT_fault iT_place iT_kind iT_at iT_number jT_name iT_next (b_iJ_used) (b_iJ_depth) (b_iJ_binders) (b_iJ_firstSet) (b_iJ_secondSet) (by first | exact b_nF_tree | with_reducible assumption | exact ⟨by omega, by omega⟩ | assumption) b_fT_tape (by first | exact b_nT_tape | with_reducible assumption | exact ⟨by omega, by omega⟩ | assumption) (b_iT_length) (b_iT_at) (b_iT_number) (b_iT_next) (by first | with_reducible assumption | omega | assumption) s.heap.size) s.heap) (cwV 0 hts gwsMX4_readAll_0 rfl rfl rfl (by decide +kernel) ⟨by first | decide +kernel | (dsimp only [headSpec] <;> omega), by first | decide +kernel | (dsimp only [headSpec] <;> omega)⟩) ⟨fun a U g mk q => by obtain ⟨q0, qh, q1, qP, qK, qD⟩ := q; exact ⟨q0, qh, q1, qP, va_K.moved (u := U) (U := U.calling g mk a) (Vm.Alike.refl U.vm) qK, qD⟩, va_recv hK hP (ci := 4) (q0 := 0) rfl rfl, fun U hU9 hW => ⟨rfl, hU9, by rw [hU9], by rw [hU9]; exact hPc, va_K.moved hW.alike hKc, hDc.weaken (fun _ _ _ _ => trivial)⟩⟩ rfl rfl hl.1 rfl (lv_room (Nat.le_of_ble_eq_true rfl)) dX4_readAll_1 ⟨by first | decide +kernel | (dsimp only [headSpec] <;> omega), by first | decide +kernel | (dsimp only [headSpec] <;> omega)⟩) hS (fun q _ h => hFc q h) hFc (fun u t9_ H locs ht hvm hw9 hB9 hz1 hk1 hS => ?_)
  revert u hw9 hB9
  refine fz_p3 ?_
  intro dF_tree_1 nF_tree_1 fF_tree_1 hw9 hB9
  try dsimp only at hw9 hB9
  revert hw9
  refine fz_a3 ?_
  intro b_nF_tree_1 f1_0 f1_1
  have hg1 := hB9.1.2.2.1
  rw [ht] at hg1
  have hg2 := hB9.1.2.2.2
  rw [ht] at hg2
  have hSz := hB9.2
  rw [ht] at hSz
  have p8 := cj_5_0_2_3 (WJ hJ aJ kJ hT hM hL (.ref dF_tree_1) iJ_used iJ_depth jJ_ownName gJ_binder iJ_binders iJ_firstSet iJ_secondSet) (WL hL aL kL hT hM xL_tree iL_names gL_key fL_kind fL_one fL_two fL_base iL_params fL_paramOver dL_paramOver nL_params fL_paramUnder dL_paramUnder nL_pu gL_over gL_under fL_bound iL_nameAt iL_startAt iL_steps jL_scaleOver jL_scaleUnder) (WF hF aF kF dF_tree_1 nF_tree_1 fF_tree_1) (WT hT aT kT fT_tape dT_tape nT_tape iT_length iT_fault iT_place iT_kind iT_at iT_number jT_name iT_next) (WM hM aM kM iM_stands iM_variables iM_rows iM_goals iM_differents iM_cases fM_from fM_to fM_whole fM_ways iM_plainRows fM_plainRow fM_kept fM_goalOver fM_goalUnder fM_goalMax fM_different)
  obtain ⟨hP, hD⟩ := frameG p9 p8 hP hD hk1 hFc (fz_P ht hB9.1.1) hB9.1.2.1
  have hz9 : H.size ≤ s.heap.size + (nF_tree_1 / 8 + 2 * nL_params - (nF_tree / 8 + 2 * nL_params)) := by (try dsimp only at hg1); omega
  have hn9 : nS s.heap.size H ≤ (2 * nF_tree_1 + 4 * nL_params - (2 * nF_tree + 4 * nL_params)) := by rw [hSz.n hS0]; (try dsimp only at hg2); omega
  refine W.tight (cells2 := (nF_tree_1 / 8 + 2 * nL_params - (nF_tree / 8 + 2 * nL_params))) (slots2 := (2 * nF_tree_1 + 4 * nL_params - (2 * nF_tree + 4 * nL_params))) hz9 hn9 ?_
  clear hz9 hn9 hz0 hn0 hS0 hSz hg1 hg2
  refine lv_aload_n hx hb dX4_readAll_4 rfl (lv_at hl 0 rfl) ?_
  refine va_get (D := (dC, dI)) (ci := 4) (v := .ref (hL 0)) (C := RX4) (T := TX4) (N := 11) hx hb hts iwsMX4_readAll_in4 hown hK hP 0 rfl rfl 2 (by decide) (hts _ hm_m_X4_readAll_0) (fun _ h9 => h9) rfl dX4_readAll_5 ?_
  refine lv_aload_n hx hb dX4_readAll_8 rfl (lv_at hl 0 rfl) ?_
  refine va_get (D := (dC, dI)) (ci := 4) (v := .ref dF_tree_1) (C := RX4) (T := TX4) (N := 11) hx hb hts iwsMX4_readAll_in4 hown hK hP 0 rfl rfl 3 (by decide) (hts (.fieldLink RX4 11 "OptimaWorks$Reader" "tree" "[I") (by decide +kernel)) (fun _ h9 => h9) rfl dX4_readAll_9 ?_
  refine lv_aload_n hx hb dX4_readAll_12 rfl (lv_at hl 0 rfl) ?_
  refine va_get (D := (dC, dI)) (ci := 4) (v := .ref (hT 0)) (C := RX4) (T := TX4) (N := 11) hx hb hts iwsMX4_readAll_in4 hown hK hP 0 rfl rfl 0 (by decide) (hts _ hm_m_X4_readAll_1) (fun _ h9 => h9) rfl dX4_readAll_13 ?_
  refine va_get (D := (dC, dI)) (ci := 9) (v := .int iT_length) (C := RX9) (T := TX9) (N := 9) hx hb hts iwsMX4_readAll_in9 hown hK hP 14 rfl rfl 1 (by decide) (hts (.fieldLink RX4 39 "OptimaWorks$Words" "length" "I") (by decide +kernel)) (fun _ h9 => h9) rfl dX4_readAll_16 ?_
  refine W.known (fun hz0 hn0 => ?_)
  have hS0 := hS.1
  have p9 := cj_5_1 (WJ hJ aJ kJ hT hM hL (.ref dF_tree_1) iJ_used iJ_depth jJ_ownName gJ_binder iJ_binders iJ_firstSet iJ_secondSet) (WL hL aL kL hT hM xL_tree iL_names gL_key fL_kind fL_one fL_two fL_base iL_params fL_paramOver dL_paramOver nL_params fL_paramUnder dL_paramUnder nL_pu gL_over gL_under fL_bound iL_nameAt iL_startAt iL_steps jL_scaleOver jL_scaleUnder) (WF hF aF kF dF_tree_1 nF_tree_1 fF_tree_1) (WT hT aT kT fT_tape dT_tape nT_tape iT_length iT_fault iT_place iT_kind iT_at iT_number jT_name iT_next) (WM hM aM kM iM_stands iM_variables iM_rows iM_goals iM_differents iM_cases fM_from fM_to fM_whole fM_ways iM_plainRows fM_plainRow fM_kept fM_goalOver fM_goalUnder fM_goalMax fM_different)
  have hPc := hP.mem (fun q h => p9.mem_iff.mpr (List.mem_append_left _ h))
  have hDc := (hD.perm p9).left
  have hKc : va_K (dC, dI) vwCl (tL kL) _ := hK.sub [1, 2, 3, 4, 5, 6, 7, 8, 9, 10] rfl
  have hFc := freeG p9 hD hS hA
  refine va_callv (va_runV (As := [.ref dF_tree_1, .int iT_length]) (rest := []) ⟨hx, hb, hml, hown, hts⟩ (Met.sV (m_X10_begin l dC dI hL aL kL hT hM xL_tree iL_names gL_key fL_kind fL_one fL_two fL_base iL_params fL_paramOver dL_paramOver nL_params fL_paramUnder dL_paramUnder nL_pu gL_over gL_under fL_bound iL_nameAt iL_startAt iL_steps jL_scaleOver jL_scaleUnder dF_tree_1 iT_length (b_iL_names) b_fL_kind b_fL_two b_fL_base (b_iL_params) (by first | exact b_nL_params | with_reducible assumption | exact ⟨by omega, by omega⟩ | assumption) (by first | with_reducible assumption | omega | (rw [iI_t (by omega) (by omega)]; omega) | assumption) (by first | with_reducible assumption | omega | (rw [iI_t (by omega) (by omega)]; omega) | assumption) (by first | with_reducible assumption | omega | (rw [iI_t (by omega) (by omega)]; omega) | assumption) (b_iT_length) H.size) H) (cwV 2 hts gwsMX4_readAll_1 rfl rfl rfl (by decide +kernel) ⟨by first | decide +kernel | (dsimp only [headSpec] <;> omega), by first | decide +kernel | (dsimp only [headSpec] <;> omega)⟩) ⟨fun a U g mk q => by obtain ⟨q0, qh, q1, qP, qK, qD⟩ := q; exact ⟨q0, qh, q1, qP, va_K.moved (u := U) (U := U.calling g mk a) (Vm.Alike.refl U.vm) qK, qD⟩, va_recv hK hP (ci := 10) (q0 := 2) rfl rfl, fun U hU9 hW => ⟨rfl, hU9, by rw [hU9], by rw [hU9]; exact hPc, va_K.moved hW.alike hKc, hDc.weaken (fun _ _ _ _ => trivial)⟩⟩ rfl rfl hl.1 rfl (lv_room (Nat.le_of_ble_eq_true rfl)) dX4_readAll_19 ⟨by first | decide +kernel | (dsimp only [headSpec] <;> omega), by first | decide +kernel | (dsimp only [headSpec] <;> omega)⟩) hS (fun q _ h => hFc q h) hFc (fun u t9_ H locs ht hvm hw9 hB9 hz1 hk1 hS => ?_)
  revert u hw9 hB9
  refine fz_p9 ?_
  intro xL_tree_2 iL_names_2 iL_params_2 fL_paramOver_2 dL_paramOver_2 nL_params_2 fL_paramUnder_2 dL_paramUnder_2 nL_pu_2 hw9 hB9
  try dsimp only at hw9 hB9
  revert hw9
  refine fz_a10 ?_
  intro b_iL_names_2 b_iL_params_2 b_nL_params_2 b_nm_2 b_pm_2 b_pu_2 f2_0 f2_1 f2_2 f2_3
  have hg1 := hB9.1.2.2.1
  rw [ht] at hg1
  have hg2 := hB9.1.2.2.2
  rw [ht] at hg2
  have hSz := hB9.2
  rw [ht] at hSz
  have p8 := cj_5_1 (WJ hJ aJ kJ hT hM hL (.ref dF_tree_1) iJ_used iJ_depth jJ_ownName gJ_binder iJ_binders iJ_firstSet iJ_secondSet) (WL hL aL kL hT hM xL_tree_2 iL_names_2 gL_key fL_kind fL_one fL_two fL_base iL_params_2 fL_paramOver_2 dL_paramOver_2 nL_params_2 fL_paramUnder_2 dL_paramUnder_2 nL_pu_2 gL_over gL_under fL_bound iL_nameAt iL_startAt iL_steps jL_scaleOver jL_scaleUnder) (WF hF aF kF dF_tree_1 nF_tree_1 fF_tree_1) (WT hT aT kT fT_tape dT_tape nT_tape iT_length iT_fault iT_place iT_kind iT_at iT_number jT_name iT_next) (WM hM aM kM iM_stands iM_variables iM_rows iM_goals iM_differents iM_cases fM_from fM_to fM_whole fM_ways iM_plainRows fM_plainRow fM_kept fM_goalOver fM_goalUnder fM_goalMax fM_different)
  obtain ⟨hP, hD⟩ := frameG p9 p8 hP hD hk1 hFc (fz_P ht hB9.1.1) hB9.1.2.1
  have hz9 : H.size ≤ s.heap.size + (nF_tree_1 / 8 + 2 * nL_params_2 - (nF_tree / 8 + 2 * nL_params)) := by (try dsimp only at hg1); omega
  have hn9 : nS s.heap.size H ≤ (2 * nF_tree_1 + 4 * nL_params_2 - (2 * nF_tree + 4 * nL_params)) := by rw [hSz.n hS0]; (try dsimp only at hg2); omega
  refine W.tight (cells2 := (nF_tree_1 / 8 + 2 * nL_params_2 - (nF_tree / 8 + 2 * nL_params))) (slots2 := (2 * nF_tree_1 + 4 * nL_params_2 - (2 * nF_tree + 4 * nL_params))) hz9 hn9 ?_
  clear hz9 hn9 hz0 hn0 hS0 hSz hg1 hg2
  have hxt := f2_0
  subst hxt
  have hP : va_P (dC, dI) vwCl (WJ hJ aJ kJ hT hM hL (.ref dF_tree_1) iJ_used iJ_depth jJ_ownName gJ_binder iJ_binders iJ_firstSet iJ_secondSet ++ (WL hL aL kL hT hM (.ref dF_tree_1) iL_names_2 gL_key fL_kind fL_one fL_two fL_base iL_params_2 fL_paramOver_2 dL_paramOver_2 nL_params_2 fL_paramUnder_2 dL_paramUnder_2 nL_pu_2 gL_over gL_under fL_bound iL_nameAt iL_startAt iL_steps jL_scaleOver jL_scaleUnder ++ (WF hF aF kF dF_tree_1 nF_tree_1 fF_tree_1 ++ (WT hT aT kT fT_tape dT_tape nT_tape iT_length iT_fault iT_place iT_kind iT_at iT_number jT_name iT_next ++ (WM hM aM kM iM_stands iM_variables iM_rows iM_goals iM_differents iM_cases fM_from fM_to fM_whole fM_ways iM_plainRows fM_plainRow fM_kept fM_goalOver fM_goalUnder fM_goalMax fM_different))))) H := hP
  have hD := fz_sd hP (hD) rfl
  refine lv_aload_n hx hb dX4_readAll_22 rfl (lv_at hl 0 rfl) ?_
  refine va_get (D := (dC, dI)) (ci := 4) (v := .ref (hT 0)) (C := RX4) (T := TX4) (N := 11) hx hb hts iwsMX4_readAll_in4 hown hK hP 0 rfl rfl 0 (by decide) (hts _ hm_m_X4_readAll_1) (fun _ h9 => h9) rfl dX4_readAll_23 ?_
  have p9 := cj_5_3 (WJ hJ aJ kJ hT hM hL (.ref dF_tree_1) iJ_used iJ_depth jJ_ownName gJ_binder iJ_binders iJ_firstSet iJ_secondSet) (WL hL aL kL hT hM (.ref dF_tree_1) iL_names_2 gL_key fL_kind fL_one fL_two fL_base iL_params_2 fL_paramOver_2 dL_paramOver_2 nL_params_2 fL_paramUnder_2 dL_paramUnder_2 nL_pu_2 gL_over gL_under fL_bound iL_nameAt iL_startAt iL_steps jL_scaleOver jL_scaleUnder) (WF hF aF kF dF_tree_1 nF_tree_1 fF_tree_1) (WT hT aT kT fT_tape dT_tape nT_tape iT_length iT_fault iT_place iT_kind iT_at iT_number jT_name iT_next) (WM hM aM kM iM_stands iM_variables iM_rows iM_goals iM_differents iM_cases fM_from fM_to fM_whole fM_ways iM_plainRows fM_plainRow fM_kept fM_goalOver fM_goalUnder fM_goalMax fM_different)
  have hPc := hP.mem (fun q h => p9.mem_iff.mpr (List.mem_append_left _ h))
  have hDc := (hD.perm p9).left
  have hKc : va_K (dC, dI) vwCl (tT kT) _ := hK.sub [12] rfl
  have hFc := freeG p9 hD hS hA
  refine va_callv (va_runV (As := []) (rest := []) ⟨hx, hb, hml, hown, hts⟩ (m_X9_begin l hst dC dI hT aT kT fT_tape dT_tape nT_tape iT_length iT_fault iT_place iT_kind iT_at iT_number jT_name iT_next b_fT_tape (by first | exact b_nT_tape | with_reducible assumption | exact ⟨by omega, by omega⟩ | assumption) (b_iT_length) (b_iT_at) (b_iT_number) (b_iT_next) (by first | with_reducible assumption | omega | assumption) H.size) (cwV 0 hts gwsMX4_readAll_2 rfl rfl rfl (by decide +kernel) ⟨by first | decide +kernel | (dsimp only [headSpec] <;> omega), by first | decide +kernel | (dsimp only [headSpec] <;> omega)⟩) (fz_preE (va_recv hK hP (ci := 9) (q0 := 14) rfl rfl) hPc hKc hDc (fun a U g mk qE => qE.call) (fun U hU9 hW => by rw [hU9]; exact (((hE : CE A s s.heap).kept hS.2.1).narrow (fun q h => hFc q h)).warm hW)) rfl rfl hl.1 rfl (lv_room (Nat.le_of_ble_eq_true rfl)) dX4_readAll_26 ⟨by first | decide +kernel | (dsimp only [headSpec] <;> omega), by first | decide +kernel | (dsimp only [headSpec] <;> omega)⟩) hS (fun q _ h => hFc q h) hFc (fun u t9_ H locs ht hvm hw9 hB9 hz1 hk1 hS => ?_)
  revert u hw9 hB9
  refine fz_p7 ?_
  intro iT_fault_3 iT_place_3 iT_kind_3 iT_at_3 iT_number_3 jT_name_3 iT_next_3 hw9 hB9
  try dsimp only at hw9 hB9
  revert hw9
  refine fz_a6 ?_
  intro b_iT_at_3 b_iT_number_3 b_iT_next_3 f3_0 f3_1 f3_2
  have p8 := cj_5_3 (WJ hJ aJ kJ hT hM hL (.ref dF_tree_1) iJ_used iJ_depth jJ_ownName gJ_binder iJ_binders iJ_firstSet iJ_secondSet) (WL hL aL kL hT hM (.ref dF_tree_1) iL_names_2 gL_key fL_kind fL_one fL_two fL_base iL_params_2 fL_paramOver_2 dL_paramOver_2 nL_params_2 fL_paramUnder_2 dL_paramUnder_2 nL_pu_2 gL_over gL_under fL_bound iL_nameAt iL_startAt iL_steps jL_scaleOver jL_scaleUnder) (WF hF aF kF dF_tree_1 nF_tree_1 fF_tree_1) (WT hT aT kT fT_tape dT_tape nT_tape iT_length iT_fault_3 iT_place_3 iT_kind_3 iT_at_3 iT_number_3 jT_name_3 iT_next_3) (WM hM aM kM iM_stands iM_variables iM_rows iM_goals iM_differents iM_cases fM_from fM_to fM_whole fM_ways iM_plainRows fM_plainRow fM_kept fM_goalOver fM_goalUnder fM_goalMax fM_different)
  obtain ⟨hP, hD⟩ := frameG p9 p8 hP hD hk1 hFc (fz_P ht hB9.1) hB9.2
  refine lv_iconst (v := 0) hx hb dX4_readAll_29 (by decide) ?_
  refine lv_istore_n hx hb dX4_readAll_30 rfl hl (by decide) rfl (fun ls (hl : lv_has ls _ ([(1, .int 0), (0, .ref (hJ 0))])) => ?_)
  have hl : lv_has _ _ ([(1, .int 0), (0, .ref (hJ 0))]) := lv_sub hl [0, 1] rfl
  refine (fun (loop : ∀ (n9 : Nat) (iJ_used_x31 : Int32) (iJ_depth_x31 : Int32) (jJ_ownName_x31 : Int64) (gJ_binder_x31 : Nat → Int64) (iJ_binders_x31 : Int32) (iJ_firstSet_x31 : Int32) (iJ_secondSet_x31 : Int32) (iL_names_x31 : Int32) (gL_key_x31 : Nat → Int64) (fL_kind_x31 : Nat → Int32) (fL_one_x31 : Nat → Int32) (fL_two_x31 : Nat → Int32) (fL_base_x31 : Nat → Int32) (iL_params_x31 : Int32) (fL_paramOver_x31 : Nat → Int32) (fL_paramUnder_x31 : Nat → Int32) (gL_over_x31 : Nat → Int64) (gL_under_x31 : Nat → Int64) (fL_bound_x31 : Nat → Int32) (iL_nameAt_x31 : Int32) (iL_startAt_x31 : Int32) (iL_steps_x31 : Int32) (jL_scaleOver_x31 : Int64) (jL_scaleUnder_x31 : Int64) (fF_tree_x31 : Nat → Int32) (iT_fault_x31 : Int32) (iT_place_x31 : Int32) (iT_kind_x31 : Int32) (iT_at_x31 : Int32) (iT_number_x31 : Int32) (jT_name_x31 : Int64) (iT_next_x31 : Int32) (iM_variables_x31 : Int32) (iM_rows_x31 : Int32) (iM_goals_x31 : Int32) (iM_differents_x31 : Int32) (iM_cases_x31 : Int32) (fM_from_x31 : Nat → Int32) (fM_to_x31 : Nat → Int32) (fM_whole_x31 : Nat → Int32) (fM_ways_x31 : Nat → Int32) (iM_plainRows_x31 : Int32) (fM_plainRow_x31 : Nat → Int32) (fM_kept_x31 : Nat → Int32) (fM_goalOver_x31 : Nat → Int32) (fM_goalUnder_x31 : Nat → Int32) (fM_goalMax_x31 : Nat → Int32) (fM_different_x31 : Nat → Int32) (l1_x31 : Int32) (H : Heap) (locs : List Loc) (ls : Array Slot), (0 ≤ iJ_used_x31.toInt ∧ iJ_used_x31.toInt ≤ 72200) → (0 ≤ iJ_depth_x31.toInt ∧ iJ_depth_x31.toInt ≤ 25) → (0 ≤ iJ_binders_x31.toInt ∧ iJ_binders_x31.toInt ≤ 64) → ((-1) ≤ iJ_firstSet_x31.toInt ∧ iJ_firstSet_x31.toInt ≤ 39) → ((-1) ≤ iJ_secondSet_x31.toInt ∧ iJ_secondSet_x31.toInt ≤ 39) → (0 ≤ iL_names_x31.toInt ∧ iL_names_x31.toInt ≤ 40) → (∀ q : Nat, 0 ≤ (fL_kind_x31 q).toInt ∧ (fL_kind_x31 q).toInt ≤ 5) → (∀ q : Nat, (-1) ≤ (fL_two_x31 q).toInt ∧ (fL_two_x31 q).toInt ≤ 39) → (∀ q : Nat, 0 ≤ (fL_base_x31 q).toInt ∧ (fL_base_x31 q).toInt ≤ 2560) → (0 ≤ iL_params_x31.toInt ∧ iL_params_x31.toInt ≤ 2560) → (0 ≤ iT_at_x31.toInt ∧ iT_at_x31.toInt ≤ 1282) → (0 ≤ iT_number_x31.toInt ∧ iT_number_x31.toInt ≤ 999999) → (0 ≤ iT_next_x31.toInt ∧ iT_next_x31.toInt ≤ 1282) → (0 ≤ iM_variables_x31.toInt ∧ iM_variables_x31.toInt ≤ 8) → (0 ≤ iM_rows_x31.toInt ∧ iM_rows_x31.toInt ≤ 12) → (0 ≤ iM_goals_x31.toInt ∧ iM_goals_x31.toInt ≤ 3) → (0 ≤ iM_differents_x31.toInt ∧ iM_differents_x31.toInt ≤ 8) → (0 ≤ iM_cases_x31.toInt ∧ iM_cases_x31.toInt ≤ 200000) → (∀ q : Nat, 0 ≤ (fM_ways_x31 q).toInt ∧ (fM_ways_x31 q).toInt ≤ 3) → (0 ≤ iM_plainRows_x31.toInt ∧ iM_plainRows_x31.toInt ≤ 12) → (∀ q : Nat, 0 ≤ (fM_plainRow_x31 q).toInt ∧ (fM_plainRow_x31 q).toInt ≤ 11) → (0 ≤ l1_x31.toInt ∧ l1_x31.toInt ≤ 4000) → (NmL iL_names_x31 fL_kind_x31 fL_one_x31 fL_two_x31 fL_base_x31 nL_params_2) → (iL_params_x31.toInt ≤ ((nL_params_2 : Nat) : Int)) → (iM_plainRows_x31.toInt ≤ iM_rows_x31.toInt) → (iT_at_x31.toInt ≤ iT_next_x31.toInt) → (iT_next_x31.toInt ≤ iT_length.toInt) → ((iT_kind_x31.toInt = 44 ∨ iT_kind_x31.toInt = 61) → iT_at_x31.toInt < iT_next_x31.toInt) → (iL_params_x31.toInt ≤ iT_at_x31.toInt) → (iM_cases_x31.toInt ≤ 64) → (4000 - l1_x31.toInt < ((n9 : Nat) : Int)) → va_P (dC, dI) vwCl (WJ hJ aJ kJ hT hM hL (.ref dF_tree_1) iJ_used_x31 iJ_depth_x31 jJ_ownName_x31 gJ_binder_x31 iJ_binders_x31 iJ_firstSet_x31 iJ_secondSet_x31 ++ (WL hL aL kL hT hM (.ref dF_tree_1) iL_names_x31 gL_key_x31 fL_kind_x31 fL_one_x31 fL_two_x31 fL_base_x31 iL_params_x31 fL_paramOver_x31 dL_paramOver_2 nL_params_2 fL_paramUnder_x31 dL_paramUnder_2 nL_pu_2 gL_over_x31 gL_under_x31 fL_bound_x31 iL_nameAt_x31 iL_startAt_x31 iL_steps_x31 jL_scaleOver_x31 jL_scaleUnder_x31 ++ (WF hF aF kF dF_tree_1 nF_tree_1 fF_tree_x31 ++ (WT hT aT kT fT_tape dT_tape nT_tape iT_length iT_fault_x31 iT_place_x31 iT_kind_x31 iT_at_x31 iT_number_x31 jT_name_x31 iT_next_x31 ++ (WM hM aM kM iM_stands iM_variables_x31 iM_rows_x31 iM_goals_x31 iM_differents_x31 iM_cases_x31 fM_from_x31 fM_to_x31 fM_whole_x31 fM_ways_x31 iM_plainRows_x31 fM_plainRow_x31 fM_kept_x31 fM_goalOver_x31 fM_goalUnder_x31 fM_goalMax_x31 fM_different_x31))))) H → va_D A (WJ hJ aJ kJ hT hM hL (.ref dF_tree_1) iJ_used_x31 iJ_depth_x31 jJ_ownName_x31 gJ_binder_x31 iJ_binders_x31 iJ_firstSet_x31 iJ_secondSet_x31 ++ (WL hL aL kL hT hM (.ref dF_tree_1) iL_names_x31 gL_key_x31 fL_kind_x31 fL_one_x31 fL_two_x31 fL_base_x31 iL_params_x31 fL_paramOver_x31 dL_paramOver_2 nL_params_2 fL_paramUnder_x31 dL_paramUnder_2 nL_pu_2 gL_over_x31 gL_under_x31 fL_bound_x31 iL_nameAt_x31 iL_startAt_x31 iL_steps_x31 jL_scaleOver_x31 jL_scaleUnder_x31 ++ (WF hF aF kF dF_tree_1 nF_tree_1 fF_tree_x31 ++ (WT hT aT kT fT_tape dT_tape nT_tape iT_length iT_fault_x31 iT_place_x31 iT_kind_x31 iT_at_x31 iT_number_x31 jT_name_x31 iT_next_x31 ++ (WM hM aM kM iM_stands iM_variables_x31 iM_rows_x31 iM_goals_x31 iM_differents_x31 iM_cases_x31 fM_from_x31 fM_to_x31 fM_whole_x31 fM_ways_x31 iM_plainRows_x31 fM_plainRow_x31 fM_kept_x31 fM_goalOver_x31 fM_goalUnder_x31 fM_goalMax_x31 fM_different_x31))))) → va_S A s.heap H locs → lv_has ls 2 [(1, .int l1_x31), (0, .ref (hJ 0))] → W p l e _ s m _ below meth c H locs (nF_tree_1 / 8 + 2 * nL_params_2 - (nF_tree / 8 + 2 * nL_params)) (2 * nF_tree_1 + 4 * nL_params_2 - (2 * nF_tree + 4 * nL_params)) _ (F0 m 31 ls [])) => loop (4001) iJ_used iJ_depth jJ_ownName gJ_binder iJ_binders iJ_firstSet iJ_secondSet iL_names_2 gL_key fL_kind fL_one fL_two fL_base iL_params_2 fL_paramOver_2 fL_paramUnder_2 gL_over gL_under fL_bound iL_nameAt iL_startAt iL_steps jL_scaleOver jL_scaleUnder fF_tree_1 iT_fault_3 iT_place_3 iT_kind_3 iT_at_3 iT_number_3 jT_name_3 iT_next_3 iM_variables iM_rows iM_goals iM_differents iM_cases fM_from fM_to fM_whole fM_ways iM_plainRows fM_plainRow fM_kept fM_goalOver fM_goalUnder fM_goalMax fM_different 0 _ _ _ (b_iJ_used) (b_iJ_depth) (b_iJ_binders) (b_iJ_firstSet) (b_iJ_secondSet) (b_iL_names_2) b_fL_kind b_fL_two b_fL_base (b_iL_params_2) (b_iT_at_3) (b_iT_number_3) (b_iT_next_3) (b_iM_variables) (b_iM_rows) (b_iM_goals) (b_iM_differents) (b_iM_cases) b_fM_ways (b_iM_plainRows) b_fM_plainRow (show 0 ≤ (0 : Int32).toInt ∧ (0 : Int32).toInt ≤ 4000 from by decide) (by first | with_reducible assumption | omega | (rw [iI_t (by omega) (by omega)]; omega) | assumption) (by first | with_reducible assumption | omega | (rw [iI_t (by omega) (by omega)]; omega) | assumption) (by first | with_reducible assumption | omega | assumption) (show iT_at_3.toInt ≤ iT_next_3.toInt from by first | assumption | omega) (show iT_next_3.toInt ≤ iT_length.toInt from by first | assumption | omega) (show (iT_kind_3.toInt = 44 ∨ iT_kind_3.toInt = 61) → iT_at_3.toInt < iT_next_3.toInt from by first | assumption | omega) (show iL_params_2.toInt ≤ iT_at_3.toInt from by first | omega | (have h7 : (0 : Int32).toInt = 0 := (by decide); omega)) (show iM_cases.toInt ≤ 64 from by omega) ((by have e9 : (0 : Int32).toInt = 0 := (by decide : (0 : Int32).toInt = 0); omega)) hP hD hS hl) ?_
  intro n9
  induction n9 with
  | zero => intro iJ_used_x31 iJ_depth_x31 jJ_ownName_x31 gJ_binder_x31 iJ_binders_x31 iJ_firstSet_x31 iJ_secondSet_x31 iL_names_x31 gL_key_x31 fL_kind_x31 fL_one_x31 fL_two_x31 fL_base_x31 iL_params_x31 fL_paramOver_x31 fL_paramUnder_x31 gL_over_x31 gL_under_x31 fL_bound_x31 iL_nameAt_x31 iL_startAt_x31 iL_steps_x31 jL_scaleOver_x31 jL_scaleUnder_x31 fF_tree_x31 iT_fault_x31 iT_place_x31 iT_kind_x31 iT_at_x31 iT_number_x31 jT_name_x31 iT_next_x31 iM_variables_x31 iM_rows_x31 iM_goals_x31 iM_differents_x31 iM_cases_x31 fM_from_x31 fM_to_x31 fM_whole_x31 fM_ways_x31 iM_plainRows_x31 fM_plainRow_x31 fM_kept_x31 fM_goalOver_x31 fM_goalUnder_x31 fM_goalMax_x31 fM_different_x31 l1_x31 H locs ls b_iJ_used_x31 b_iJ_depth_x31 b_iJ_binders_x31 b_iJ_firstSet_x31 b_iJ_secondSet_x31 b_iL_names_x31 b_fL_kind_x31 b_fL_two_x31 b_fL_base_x31 b_iL_params_x31 b_iT_at_x31 b_iT_number_x31 b_iT_next_x31 b_iM_variables_x31 b_iM_rows_x31 b_iM_goals_x31 b_iM_differents_x31 b_iM_cases_x31 b_fM_ways_x31 b_iM_plainRows_x31 b_fM_plainRow_x31 b_l1_x31 b_nm_x31 b_pm_x31 b_pr_x31 hq1 hq2 hq3 hpa hcx hf9; exact False.elim (by omega)
  | succ n9 ihx31 =>
    intro iJ_used_x31 iJ_depth_x31 jJ_ownName_x31 gJ_binder_x31 iJ_binders_x31 iJ_firstSet_x31 iJ_secondSet_x31 iL_names_x31 gL_key_x31 fL_kind_x31 fL_one_x31 fL_two_x31 fL_base_x31 iL_params_x31 fL_paramOver_x31 fL_paramUnder_x31 gL_over_x31 gL_under_x31 fL_bound_x31 iL_nameAt_x31 iL_startAt_x31 iL_steps_x31 jL_scaleOver_x31 jL_scaleUnder_x31 fF_tree_x31 iT_fault_x31 iT_place_x31 iT_kind_x31 iT_at_x31 iT_number_x31 jT_name_x31 iT_next_x31 iM_variables_x31 iM_rows_x31 iM_goals_x31 iM_differents_x31 iM_cases_x31 fM_from_x31 fM_to_x31 fM_whole_x31 fM_ways_x31 iM_plainRows_x31 fM_plainRow_x31 fM_kept_x31 fM_goalOver_x31 fM_goalUnder_x31 fM_goalMax_x31 fM_different_x31 l1_x31 H locs ls b_iJ_used_x31 b_iJ_depth_x31 b_iJ_binders_x31 b_iJ_firstSet_x31 b_iJ_secondSet_x31 b_iL_names_x31 b_fL_kind_x31 b_fL_two_x31 b_fL_base_x31 b_iL_params_x31 b_iT_at_x31 b_iT_number_x31 b_iT_next_x31 b_iM_variables_x31 b_iM_rows_x31 b_iM_goals_x31 b_iM_differents_x31 b_iM_cases_x31 b_fM_ways_x31 b_iM_plainRows_x31 b_fM_plainRow_x31 b_l1_x31 b_nm_x31 b_pm_x31 b_pr_x31 hq1 hq2 hq3 hpa hcx hfx31 hP hD hS hl
    refine lv_iload_n hx hb dX4_readAll_31 rfl (lv_at hl 0 rfl) ?_
    refine lv_sipush (v := 4000) hx hb dX4_readAll_32 (by decide) ?_
    refine W.known (fun hzk hnk => ?_)
    refine W.widen (k := 15000) (n := 160000) (by omega) (by omega) ?_
    refine W.cut (pc := 223) (fun H locs ls stk => (H.size + (nF_tree / 8 + 2 * nL_params) ≤ s.heap.size + (nF_tree_1 / 8 + 2 * nL_params_2) ∧ nS s.heap.size H + (2 * nF_tree + 4 * nL_params) ≤ (2 * nF_tree_1 + 4 * nL_params_2)) ∧  stk = [] ∧ va_P (dC, dI) vwCl (WJ hJ aJ kJ hT hM hL (.ref dF_tree_1) iJ_used_x31 iJ_depth_x31 jJ_ownName_x31 gJ_binder_x31 iJ_binders_x31 iJ_firstSet_x31 iJ_secondSet_x31 ++ (WL hL aL kL hT hM (.ref dF_tree_1) iL_names_x31 gL_key_x31 fL_kind_x31 fL_one_x31 fL_two_x31 fL_base_x31 iL_params_x31 fL_paramOver_x31 dL_paramOver_2 nL_params_2 fL_paramUnder_x31 dL_paramUnder_2 nL_pu_2 gL_over_x31 gL_under_x31 fL_bound_x31 iL_nameAt_x31 iL_startAt_x31 iL_steps_x31 jL_scaleOver_x31 jL_scaleUnder_x31 ++ (WF hF aF kF dF_tree_1 nF_tree_1 fF_tree_x31 ++ (WT hT aT kT fT_tape dT_tape nT_tape iT_length iT_fault_x31 iT_place_x31 iT_kind_x31 iT_at_x31 iT_number_x31 jT_name_x31 iT_next_x31 ++ (WM hM aM kM iM_stands iM_variables_x31 iM_rows_x31 iM_goals_x31 iM_differents_x31 iM_cases_x31 fM_from_x31 fM_to_x31 fM_whole_x31 fM_ways_x31 iM_plainRows_x31 fM_plainRow_x31 fM_kept_x31 fM_goalOver_x31 fM_goalUnder_x31 fM_goalMax_x31 fM_different_x31))))) H ∧ va_D A (WJ hJ aJ kJ hT hM hL (.ref dF_tree_1) iJ_used_x31 iJ_depth_x31 jJ_ownName_x31 gJ_binder_x31 iJ_binders_x31 iJ_firstSet_x31 iJ_secondSet_x31 ++ (WL hL aL kL hT hM (.ref dF_tree_1) iL_names_x31 gL_key_x31 fL_kind_x31 fL_one_x31 fL_two_x31 fL_base_x31 iL_params_x31 fL_paramOver_x31 dL_paramOver_2 nL_params_2 fL_paramUnder_x31 dL_paramUnder_2 nL_pu_2 gL_over_x31 gL_under_x31 fL_bound_x31 iL_nameAt_x31 iL_startAt_x31 iL_steps_x31 jL_scaleOver_x31 jL_scaleUnder_x31 ++ (WF hF aF kF dF_tree_1 nF_tree_1 fF_tree_x31 ++ (WT hT aT kT fT_tape dT_tape nT_tape iT_length iT_fault_x31 iT_place_x31 iT_kind_x31 iT_at_x31 iT_number_x31 jT_name_x31 iT_next_x31 ++ (WM hM aM kM iM_stands iM_variables_x31 iM_rows_x31 iM_goals_x31 iM_differents_x31 iM_cases_x31 fM_from_x31 fM_to_x31 fM_whole_x31 fM_ways_x31 iM_plainRows_x31 fM_plainRow_x31 fM_kept_x31 fM_goalOver_x31 fM_goalUnder_x31 fM_goalMax_x31 fM_different_x31))))) ∧ va_S A s.heap H locs ∧ lv_has ls 2 [(1, .int l1_x31), (0, .ref (hJ 0))]) (fun join15 => ?_) ?_
    · refine W.tight (cells2 := (nF_tree_1 / 8 + 2 * nL_params_2 - (nF_tree / 8 + 2 * nL_params))) (slots2 := (2 * nF_tree_1 + 4 * nL_params_2 - (2 * nF_tree + 4 * nL_params))) hzk hnk ?_
      refine lv_icmp_ge (tgt := 223) hx hb dX4_readAll_35 (by decide) (fun c_35 => ?_) (fun c_35 => ?_)
      · have t_35 : l1_x31.toInt ≥ 4000 := toI_ge c_35 rfl (by decide : (4000 : Int32).toInt = 4000)
        have hl : lv_has _ _ ([(1, .int l1_x31), (0, .ref (hJ 0))]) := lv_sub hl [0, 1] rfl
        refine W.known (fun hza hna => ?_)
        refine W.widen (k := 15000) (n := 160000) (by omega) (by omega) ?_
        exact join15 _ _ _ _ ⟨⟨by omega, by omega⟩, rfl, hP, hD, hS, hl⟩
      · have t_35 : ¬ l1_x31.toInt ≥ 4000 := toI_nge c_35 rfl (by decide : (4000 : Int32).toInt = 4000)
        refine lv_aload_n hx hb dX4_readAll_38 rfl (lv_at hl 1 rfl) ?_
        refine va_get (D := (dC, dI)) (ci := 4) (v := .ref (hT 0)) (C := RX4) (T := TX4) (N := 11) hx hb hts iwsMX4_readAll_in4 hown hK hP 0 rfl rfl 0 (by decide) (hts _ hm_m_X4_readAll_1) (fun _ h9 => h9) rfl dX4_readAll_39 ?_
        refine va_get (D := (dC, dI)) (ci := 9) (v := .int iT_kind_x31) (C := RX9) (T := TX9) (N := 9) hx hb hts iwsMX4_readAll_in9 hown hK hP 14 rfl rfl 4 (by decide) (hts _ hm_m_X4_readAll_2) (fun _ h9 => h9) rfl dX4_readAll_42 ?_
        refine lv_if_eq (tgt := 223) hx hb dX4_readAll_45 (by decide) (fun c_45 => ?_) (fun c_45 => ?_)
        · have t_45 : iT_kind_x31.toInt = 0 := toI_eq c_45 rfl (by decide : (0 : Int32).toInt = 0)
          have hl : lv_has _ _ ([(1, .int l1_x31), (0, .ref (hJ 0))]) := lv_sub hl [0, 1] rfl
          refine W.known (fun hza hna => ?_)
          refine W.widen (k := 15000) (n := 160000) (by omega) (by omega) ?_
          exact join15 _ _ _ _ ⟨⟨by omega, by omega⟩, rfl, hP, hD, hS, hl⟩
        · have t_45 : ¬ iT_kind_x31.toInt = 0 := toI_neq c_45 rfl (by decide : (0 : Int32).toInt = 0)
          refine lv_aload_n hx hb dX4_readAll_48 rfl (lv_at hl 1 rfl) ?_
          refine lv_bipush (v := 7) hx hb dX4_readAll_49 (by decide) ?_
          refine va_put (D := (dC, dI)) (ci := 4) (v := .int 7) (ty := .int) (C := RX4) (T := TX4) (N := 11) hx hb hts iwsMX4_readAll_in4 tyX4 tyX4_ok nmX4 hown hK hP hD hS 0 rfl rfl 4 (by decide) (hts (.fieldLink RX4 54 "OptimaWorks$Reader" "used" "I") (by decide +kernel)) (fun _ h9 => h9) rfl (by decide +kernel) rfl rfl (Nat.le_of_ble_eq_true rfl) dX4_readAll_51 (fun H locs hP hD hS => ?_)
          have hP : va_P (dC, dI) vwCl (WJ hJ aJ kJ hT hM hL (.ref dF_tree_1) 7 iJ_depth_x31 jJ_ownName_x31 gJ_binder_x31 iJ_binders_x31 iJ_firstSet_x31 iJ_secondSet_x31 ++ (WL hL aL kL hT hM (.ref dF_tree_1) iL_names_x31 gL_key_x31 fL_kind_x31 fL_one_x31 fL_two_x31 fL_base_x31 iL_params_x31 fL_paramOver_x31 dL_paramOver_2 nL_params_2 fL_paramUnder_x31 dL_paramUnder_2 nL_pu_2 gL_over_x31 gL_under_x31 fL_bound_x31 iL_nameAt_x31 iL_startAt_x31 iL_steps_x31 jL_scaleOver_x31 jL_scaleUnder_x31 ++ (WF hF aF kF dF_tree_1 nF_tree_1 fF_tree_x31 ++ (WT hT aT kT fT_tape dT_tape nT_tape iT_length iT_fault_x31 iT_place_x31 iT_kind_x31 iT_at_x31 iT_number_x31 jT_name_x31 iT_next_x31 ++ (WM hM aM kM iM_stands iM_variables_x31 iM_rows_x31 iM_goals_x31 iM_differents_x31 iM_cases_x31 fM_from_x31 fM_to_x31 fM_whole_x31 fM_ways_x31 iM_plainRows_x31 fM_plainRow_x31 fM_kept_x31 fM_goalOver_x31 fM_goalUnder_x31 fM_goalMax_x31 fM_different_x31))))) H := hP
          have hD := fz_sd hP (hD) rfl
          refine lv_aload_n hx hb dX4_readAll_54 rfl (lv_at hl 1 rfl) ?_
          refine lv_iconst (v := 0) hx hb dX4_readAll_55 (by decide) ?_
          refine va_put (D := (dC, dI)) (ci := 4) (v := .int 0) (ty := .int) (C := RX4) (T := TX4) (N := 11) hx hb hts iwsMX4_readAll_in4 tyX4 tyX4_ok nmX4 hown hK hP hD hS 0 rfl rfl 5 (by decide) (hts (.fieldLink RX4 57 "OptimaWorks$Reader" "depth" "I") (by decide +kernel)) (fun _ h9 => h9) rfl (by decide +kernel) rfl rfl (Nat.le_of_ble_eq_true rfl) dX4_readAll_56 (fun H locs hP hD hS => ?_)
          have hP : va_P (dC, dI) vwCl (WJ hJ aJ kJ hT hM hL (.ref dF_tree_1) 7 0 jJ_ownName_x31 gJ_binder_x31 iJ_binders_x31 iJ_firstSet_x31 iJ_secondSet_x31 ++ (WL hL aL kL hT hM (.ref dF_tree_1) iL_names_x31 gL_key_x31 fL_kind_x31 fL_one_x31 fL_two_x31 fL_base_x31 iL_params_x31 fL_paramOver_x31 dL_paramOver_2 nL_params_2 fL_paramUnder_x31 dL_paramUnder_2 nL_pu_2 gL_over_x31 gL_under_x31 fL_bound_x31 iL_nameAt_x31 iL_startAt_x31 iL_steps_x31 jL_scaleOver_x31 jL_scaleUnder_x31 ++ (WF hF aF kF dF_tree_1 nF_tree_1 fF_tree_x31 ++ (WT hT aT kT fT_tape dT_tape nT_tape iT_length iT_fault_x31 iT_place_x31 iT_kind_x31 iT_at_x31 iT_number_x31 jT_name_x31 iT_next_x31 ++ (WM hM aM kM iM_stands iM_variables_x31 iM_rows_x31 iM_goals_x31 iM_differents_x31 iM_cases_x31 fM_from_x31 fM_to_x31 fM_whole_x31 fM_ways_x31 iM_plainRows_x31 fM_plainRow_x31 fM_kept_x31 fM_goalOver_x31 fM_goalUnder_x31 fM_goalMax_x31 fM_different_x31))))) H := hP
          have hD := fz_sd hP (hD) rfl
          refine lv_aload_n hx hb dX4_readAll_59 rfl (lv_at hl 1 rfl) ?_
          refine lv_iconst (v := 0) hx hb dX4_readAll_60 (by decide) ?_
          refine va_put (D := (dC, dI)) (ci := 4) (v := .int 0) (ty := .int) (C := RX4) (T := TX4) (N := 11) hx hb hts iwsMX4_readAll_in4 tyX4 tyX4_ok nmX4 hown hK hP hD hS 0 rfl rfl 8 (by decide) (hts (.fieldLink RX4 60 "OptimaWorks$Reader" "binders" "I") (by decide +kernel)) (fun _ h9 => h9) rfl (by decide +kernel) rfl rfl (Nat.le_of_ble_eq_true rfl) dX4_readAll_61 (fun H locs hP hD hS => ?_)
          have hP : va_P (dC, dI) vwCl (WJ hJ aJ kJ hT hM hL (.ref dF_tree_1) 7 0 jJ_ownName_x31 gJ_binder_x31 0 iJ_firstSet_x31 iJ_secondSet_x31 ++ (WL hL aL kL hT hM (.ref dF_tree_1) iL_names_x31 gL_key_x31 fL_kind_x31 fL_one_x31 fL_two_x31 fL_base_x31 iL_params_x31 fL_paramOver_x31 dL_paramOver_2 nL_params_2 fL_paramUnder_x31 dL_paramUnder_2 nL_pu_2 gL_over_x31 gL_under_x31 fL_bound_x31 iL_nameAt_x31 iL_startAt_x31 iL_steps_x31 jL_scaleOver_x31 jL_scaleUnder_x31 ++ (WF hF aF kF dF_tree_1 nF_tree_1 fF_tree_x31 ++ (WT hT aT kT fT_tape dT_tape nT_tape iT_length iT_fault_x31 iT_place_x31 iT_kind_x31 iT_at_x31 iT_number_x31 jT_name_x31 iT_next_x31 ++ (WM hM aM kM iM_stands iM_variables_x31 iM_rows_x31 iM_goals_x31 iM_differents_x31 iM_cases_x31 fM_from_x31 fM_to_x31 fM_whole_x31 fM_ways_x31 iM_plainRows_x31 fM_plainRow_x31 fM_kept_x31 fM_goalOver_x31 fM_goalUnder_x31 fM_goalMax_x31 fM_different_x31))))) H := hP
          have hD := fz_sd hP (hD) rfl
          refine lv_aload_n hx hb dX4_readAll_64 rfl (lv_at hl 1 rfl) ?_
          refine lv_lconst (v := 0) hx hb dX4_readAll_65 (by decide) ?_
          refine va_put (D := (dC, dI)) (ci := 4) (v := .long 0) (ty := .long) (C := RX4) (T := TX4) (N := 11) hx hb hts iwsMX4_readAll_in4 tyX4 tyX4_ok nmX4 hown hK hP hD hS 0 rfl rfl 6 (by decide) (hts (.fieldLink RX4 63 "OptimaWorks$Reader" "ownName" "J") (by decide +kernel)) (fun _ h9 => h9) rfl (by decide +kernel) rfl rfl (Nat.le_of_ble_eq_true rfl) dX4_readAll_66 (fun H locs hP hD hS => ?_)
          have hP : va_P (dC, dI) vwCl (WJ hJ aJ kJ hT hM hL (.ref dF_tree_1) 7 0 0 gJ_binder_x31 0 iJ_firstSet_x31 iJ_secondSet_x31 ++ (WL hL aL kL hT hM (.ref dF_tree_1) iL_names_x31 gL_key_x31 fL_kind_x31 fL_one_x31 fL_two_x31 fL_base_x31 iL_params_x31 fL_paramOver_x31 dL_paramOver_2 nL_params_2 fL_paramUnder_x31 dL_paramUnder_2 nL_pu_2 gL_over_x31 gL_under_x31 fL_bound_x31 iL_nameAt_x31 iL_startAt_x31 iL_steps_x31 jL_scaleOver_x31 jL_scaleUnder_x31 ++ (WF hF aF kF dF_tree_1 nF_tree_1 fF_tree_x31 ++ (WT hT aT kT fT_tape dT_tape nT_tape iT_length iT_fault_x31 iT_place_x31 iT_kind_x31 iT_at_x31 iT_number_x31 jT_name_x31 iT_next_x31 ++ (WM hM aM kM iM_stands iM_variables_x31 iM_rows_x31 iM_goals_x31 iM_differents_x31 iM_cases_x31 fM_from_x31 fM_to_x31 fM_whole_x31 fM_ways_x31 iM_plainRows_x31 fM_plainRow_x31 fM_kept_x31 fM_goalOver_x31 fM_goalUnder_x31 fM_goalMax_x31 fM_different_x31))))) H := hP
          have hD := fz_sd hP (hD) rfl
          refine lv_aload_n hx hb dX4_readAll_69 rfl (lv_at hl 1 rfl) ?_
          refine va_get (D := (dC, dI)) (ci := 4) (v := .ref (hL 0)) (C := RX4) (T := TX4) (N := 11) hx hb hts iwsMX4_readAll_in4 hown hK hP 0 rfl rfl 2 (by decide) (hts _ hm_m_X4_readAll_0) (fun _ h9 => h9) rfl dX4_readAll_70 ?_
          refine lv_aload_n hx hb dX4_readAll_73 rfl (lv_at hl 1 rfl) ?_
          refine va_get (D := (dC, dI)) (ci := 4) (v := .ref (hT 0)) (C := RX4) (T := TX4) (N := 11) hx hb hts iwsMX4_readAll_in4 hown hK hP 0 rfl rfl 0 (by decide) (hts _ hm_m_X4_readAll_1) (fun _ h9 => h9) rfl dX4_readAll_74 ?_
          refine va_get (D := (dC, dI)) (ci := 9) (v := .int iT_at_x31) (C := RX9) (T := TX9) (N := 9) hx hb hts iwsMX4_readAll_in9 hown hK hP 14 rfl rfl 5 (by decide) (hts (.fieldLink RX4 67 "OptimaWorks$Words" "at" "I") (by decide +kernel)) (fun _ h9 => h9) rfl dX4_readAll_77 ?_
          have p9 := cj_5_1 (WJ hJ aJ kJ hT hM hL (.ref dF_tree_1) 7 0 0 gJ_binder_x31 0 iJ_firstSet_x31 iJ_secondSet_x31) (WL hL aL kL hT hM (.ref dF_tree_1) iL_names_x31 gL_key_x31 fL_kind_x31 fL_one_x31 fL_two_x31 fL_base_x31 iL_params_x31 fL_paramOver_x31 dL_paramOver_2 nL_params_2 fL_paramUnder_x31 dL_paramUnder_2 nL_pu_2 gL_over_x31 gL_under_x31 fL_bound_x31 iL_nameAt_x31 iL_startAt_x31 iL_steps_x31 jL_scaleOver_x31 jL_scaleUnder_x31) (WF hF aF kF dF_tree_1 nF_tree_1 fF_tree_x31) (WT hT aT kT fT_tape dT_tape nT_tape iT_length iT_fault_x31 iT_place_x31 iT_kind_x31 iT_at_x31 iT_number_x31 jT_name_x31 iT_next_x31) (WM hM aM kM iM_stands iM_variables_x31 iM_rows_x31 iM_goals_x31 iM_differents_x31 iM_cases_x31 fM_from_x31 fM_to_x31 fM_whole_x31 fM_ways_x31 iM_plainRows_x31 fM_plainRow_x31 fM_kept_x31 fM_goalOver_x31 fM_goalUnder_x31 fM_goalMax_x31 fM_different_x31)
          have hPc := hP.mem (fun q h => p9.mem_iff.mpr (List.mem_append_left _ h))
          have hDc := (hD.perm p9).left
          have hKc : va_K (dC, dI) vwCl (tL kL) _ := hK.sub [1, 2, 3, 4, 5, 6, 7, 8, 9, 10] rfl
          have hFc := freeG p9 hD hS hA
          refine va_callv (va_runV (As := [.int iT_at_x31]) (rest := []) ⟨hx, hb, hml, hown, hts⟩ (m_X10_startDeclaration l dC dI hL aL kL hT hM (.ref dF_tree_1) iL_names_x31 gL_key_x31 fL_kind_x31 fL_one_x31 fL_two_x31 fL_base_x31 iL_params_x31 fL_paramOver_x31 dL_paramOver_2 nL_params_2 fL_paramUnder_x31 dL_paramUnder_2 nL_pu_2 gL_over_x31 gL_under_x31 fL_bound_x31 iL_nameAt_x31 iL_startAt_x31 iL_steps_x31 jL_scaleOver_x31 jL_scaleUnder_x31 iT_at_x31 (b_iL_names_x31) b_fL_kind_x31 b_fL_two_x31 b_fL_base_x31 (b_iL_params_x31) (by first | exact b_nL_params_2 | with_reducible assumption | exact ⟨by omega, by omega⟩ | assumption) (by first | with_reducible assumption | omega | (rw [iI_t (by omega) (by omega)]; omega) | assumption) (by first | with_reducible assumption | omega | (rw [iI_t (by omega) (by omega)]; omega) | assumption) (by first | with_reducible assumption | omega | (rw [iI_t (by omega) (by omega)]; omega) | assumption) H.size) (cwV 1 hts gwsMX4_readAll_3 rfl rfl rfl (by decide +kernel) ⟨by first | decide +kernel | (dsimp only [headSpec] <;> omega), by first | decide +kernel | (dsimp only [headSpec] <;> omega)⟩) (fz_pre (va_recv hK hP (ci := 10) (q0 := 2) rfl rfl) hPc hKc hDc) rfl rfl hl.1 rfl (lv_room (Nat.le_of_ble_eq_true rfl)) dX4_readAll_80 ⟨by first | decide +kernel | (dsimp only [headSpec] <;> omega), by first | decide +kernel | (dsimp only [headSpec] <;> omega)⟩) hS (fun q _ h => hFc q h) hFc (fun u t9_ H locs ht hvm hw9 hB9 hz1 hk1 hS => ?_)
          revert u hw9 hB9
          refine fz_p3 ?_
          intro iL_nameAt_89 iL_startAt_89 iL_steps_89 hw9 hB9
          try dsimp only at hw9 hB9
          clear hw9
          have p8 := cj_5_1 (WJ hJ aJ kJ hT hM hL (.ref dF_tree_1) 7 0 0 gJ_binder_x31 0 iJ_firstSet_x31 iJ_secondSet_x31) (WL hL aL kL hT hM (.ref dF_tree_1) iL_names_x31 gL_key_x31 fL_kind_x31 fL_one_x31 fL_two_x31 fL_base_x31 iL_params_x31 fL_paramOver_x31 dL_paramOver_2 nL_params_2 fL_paramUnder_x31 dL_paramUnder_2 nL_pu_2 gL_over_x31 gL_under_x31 fL_bound_x31 iL_nameAt_89 iL_startAt_89 iL_steps_89 jL_scaleOver_x31 jL_scaleUnder_x31) (WF hF aF kF dF_tree_1 nF_tree_1 fF_tree_x31) (WT hT aT kT fT_tape dT_tape nT_tape iT_length iT_fault_x31 iT_place_x31 iT_kind_x31 iT_at_x31 iT_number_x31 jT_name_x31 iT_next_x31) (WM hM aM kM iM_stands iM_variables_x31 iM_rows_x31 iM_goals_x31 iM_differents_x31 iM_cases_x31 fM_from_x31 fM_to_x31 fM_whole_x31 fM_ways_x31 iM_plainRows_x31 fM_plainRow_x31 fM_kept_x31 fM_goalOver_x31 fM_goalUnder_x31 fM_goalMax_x31 fM_different_x31)
          obtain ⟨hP, hD⟩ := frameG p9 p8 hP hD hk1 hFc (fz_P ht hB9.1) hB9.2
          refine lv_aload_n hx hb dX4_readAll_83 rfl (lv_at hl 1 rfl) ?_
          refine va_get (D := (dC, dI)) (ci := 4) (v := .ref (hT 0)) (C := RX4) (T := TX4) (N := 11) hx hb hts iwsMX4_readAll_in4 hown hK hP 0 rfl rfl 0 (by decide) (hts _ hm_m_X4_readAll_1) (fun _ h9 => h9) rfl dX4_readAll_84 ?_
          refine va_get (D := (dC, dI)) (ci := 9) (v := .int iT_kind_x31) (C := RX9) (T := TX9) (N := 9) hx hb hts iwsMX4_readAll_in9 hown hK hP 14 rfl rfl 4 (by decide) (hts _ hm_m_X4_readAll_2) (fun _ h9 => h9) rfl dX4_readAll_87 ?_
          refine W.known (fun hzk hnk => ?_)
          refine W.widen (k := 15000) (n := 160000) (by omega) (by omega) ?_
          refine W.cut (pc := 217) (fun H locs ls stk => ∃ (iJ_used_j16 : Int32) (iJ_depth_j16 : Int32) (jJ_ownName_j16 : Int64) (gJ_binder_j16 : Nat → Int64) (iJ_binders_j16 : Int32) (iJ_firstSet_j16 : Int32) (iJ_secondSet_j16 : Int32) (iL_names_j16 : Int32) (gL_key_j16 : Nat → Int64) (fL_kind_j16 : Nat → Int32) (fL_one_j16 : Nat → Int32) (fL_two_j16 : Nat → Int32) (fL_base_j16 : Nat → Int32) (iL_params_j16 : Int32) (fL_paramOver_j16 : Nat → Int32) (fL_paramUnder_j16 : Nat → Int32) (gL_over_j16 : Nat → Int64) (gL_under_j16 : Nat → Int64) (fL_bound_j16 : Nat → Int32) (iL_nameAt_j16 : Int32) (iL_steps_j16 : Int32) (jL_scaleOver_j16 : Int64) (jL_scaleUnder_j16 : Int64) (fF_tree_j16 : Nat → Int32) (iT_fault_j16 : Int32) (iT_place_j16 : Int32) (iT_kind_j16 : Int32) (iT_at_j16 : Int32) (iT_number_j16 : Int32) (jT_name_j16 : Int64) (iT_next_j16 : Int32) (iM_variables_j16 : Int32) (iM_rows_j16 : Int32) (iM_goals_j16 : Int32) (iM_differents_j16 : Int32) (iM_cases_j16 : Int32) (fM_from_j16 : Nat → Int32) (fM_to_j16 : Nat → Int32) (fM_whole_j16 : Nat → Int32) (fM_ways_j16 : Nat → Int32) (iM_plainRows_j16 : Int32) (fM_plainRow_j16 : Nat → Int32) (fM_kept_j16 : Nat → Int32) (fM_goalOver_j16 : Nat → Int32) (fM_goalUnder_j16 : Nat → Int32) (fM_goalMax_j16 : Nat → Int32) (fM_different_j16 : Nat → Int32), (0 ≤ iJ_used_j16.toInt ∧ iJ_used_j16.toInt ≤ 72200) ∧ (0 ≤ iJ_depth_j16.toInt ∧ iJ_depth_j16.toInt ≤ 25) ∧ (0 ≤ iJ_binders_j16.toInt ∧ iJ_binders_j16.toInt ≤ 64) ∧ ((-1) ≤ iJ_firstSet_j16.toInt ∧ iJ_firstSet_j16.toInt ≤ 39) ∧ ((-1) ≤ iJ_secondSet_j16.toInt ∧ iJ_secondSet_j16.toInt ≤ 39) ∧ (0 ≤ iL_names_j16.toInt ∧ iL_names_j16.toInt ≤ 40) ∧ (∀ q : Nat, 0 ≤ (fL_kind_j16 q).toInt ∧ (fL_kind_j16 q).toInt ≤ 5) ∧ (∀ q : Nat, (-1) ≤ (fL_two_j16 q).toInt ∧ (fL_two_j16 q).toInt ≤ 39) ∧ (∀ q : Nat, 0 ≤ (fL_base_j16 q).toInt ∧ (fL_base_j16 q).toInt ≤ 2560) ∧ (0 ≤ iL_params_j16.toInt ∧ iL_params_j16.toInt ≤ 2560) ∧ (0 ≤ iT_at_j16.toInt ∧ iT_at_j16.toInt ≤ 1282) ∧ (0 ≤ iT_number_j16.toInt ∧ iT_number_j16.toInt ≤ 999999) ∧ (0 ≤ iT_next_j16.toInt ∧ iT_next_j16.toInt ≤ 1282) ∧ (0 ≤ iM_variables_j16.toInt ∧ iM_variables_j16.toInt ≤ 8) ∧ (0 ≤ iM_rows_j16.toInt ∧ iM_rows_j16.toInt ≤ 12) ∧ (0 ≤ iM_goals_j16.toInt ∧ iM_goals_j16.toInt ≤ 3) ∧ (0 ≤ iM_differents_j16.toInt ∧ iM_differents_j16.toInt ≤ 8) ∧ (0 ≤ iM_cases_j16.toInt ∧ iM_cases_j16.toInt ≤ 200000) ∧ (∀ q : Nat, 0 ≤ (fM_ways_j16 q).toInt ∧ (fM_ways_j16 q).toInt ≤ 3) ∧ (0 ≤ iM_plainRows_j16.toInt ∧ iM_plainRows_j16.toInt ≤ 12) ∧ (∀ q : Nat, 0 ≤ (fM_plainRow_j16 q).toInt ∧ (fM_plainRow_j16 q).toInt ≤ 11) ∧ (NmL iL_names_j16 fL_kind_j16 fL_one_j16 fL_two_j16 fL_base_j16 nL_params_2) ∧ (iL_params_j16.toInt ≤ ((nL_params_2 : Nat) : Int)) ∧ (iM_plainRows_j16.toInt ≤ iM_rows_j16.toInt) ∧ (iT_at_j16.toInt ≤ iT_next_j16.toInt) ∧ (iT_next_j16.toInt ≤ iT_length.toInt) ∧ ((iT_kind_j16.toInt = 44 ∨ iT_kind_j16.toInt = 61) → iT_at_j16.toInt < iT_next_j16.toInt) ∧ (iL_params_j16.toInt ≤ iT_at_j16.toInt) ∧ (iM_cases_j16.toInt ≤ 64) ∧ (H.size + (nF_tree / 8 + 2 * nL_params) ≤ s.heap.size + (nF_tree_1 / 8 + 2 * nL_params_2) ∧ nS s.heap.size H + (2 * nF_tree + 4 * nL_params) ≤ (2 * nF_tree_1 + 4 * nL_params_2)) ∧  stk = [] ∧ va_P (dC, dI) vwCl (WJ hJ aJ kJ hT hM hL (.ref dF_tree_1) iJ_used_j16 iJ_depth_j16 jJ_ownName_j16 gJ_binder_j16 iJ_binders_j16 iJ_firstSet_j16 iJ_secondSet_j16 ++ (WL hL aL kL hT hM (.ref dF_tree_1) iL_names_j16 gL_key_j16 fL_kind_j16 fL_one_j16 fL_two_j16 fL_base_j16 iL_params_j16 fL_paramOver_j16 dL_paramOver_2 nL_params_2 fL_paramUnder_j16 dL_paramUnder_2 nL_pu_2 gL_over_j16 gL_under_j16 fL_bound_j16 iL_nameAt_j16 iL_startAt_89 iL_steps_j16 jL_scaleOver_j16 jL_scaleUnder_j16 ++ (WF hF aF kF dF_tree_1 nF_tree_1 fF_tree_j16 ++ (WT hT aT kT fT_tape dT_tape nT_tape iT_length iT_fault_j16 iT_place_j16 iT_kind_j16 iT_at_j16 iT_number_j16 jT_name_j16 iT_next_j16 ++ (WM hM aM kM iM_stands iM_variables_j16 iM_rows_j16 iM_goals_j16 iM_differents_j16 iM_cases_j16 fM_from_j16 fM_to_j16 fM_whole_j16 fM_ways_j16 iM_plainRows_j16 fM_plainRow_j16 fM_kept_j16 fM_goalOver_j16 fM_goalUnder_j16 fM_goalMax_j16 fM_different_j16))))) H ∧ va_D A (WJ hJ aJ kJ hT hM hL (.ref dF_tree_1) iJ_used_j16 iJ_depth_j16 jJ_ownName_j16 gJ_binder_j16 iJ_binders_j16 iJ_firstSet_j16 iJ_secondSet_j16 ++ (WL hL aL kL hT hM (.ref dF_tree_1) iL_names_j16 gL_key_j16 fL_kind_j16 fL_one_j16 fL_two_j16 fL_base_j16 iL_params_j16 fL_paramOver_j16 dL_paramOver_2 nL_params_2 fL_paramUnder_j16 dL_paramUnder_2 nL_pu_2 gL_over_j16 gL_under_j16 fL_bound_j16 iL_nameAt_j16 iL_startAt_89 iL_steps_j16 jL_scaleOver_j16 jL_scaleUnder_j16 ++ (WF hF aF kF dF_tree_1 nF_tree_1 fF_tree_j16 ++ (WT hT aT kT fT_tape dT_tape nT_tape iT_length iT_fault_j16 iT_place_j16 iT_kind_j16 iT_at_j16 iT_number_j16 jT_name_j16 iT_next_j16 ++ (WM hM aM kM iM_stands iM_variables_j16 iM_rows_j16 iM_goals_j16 iM_differents_j16 iM_cases_j16 fM_from_j16 fM_to_j16 fM_whole_j16 fM_ways_j16 iM_plainRows_j16 fM_plainRow_j16 fM_kept_j16 fM_goalOver_j16 fM_goalUnder_j16 fM_goalMax_j16 fM_different_j16))))) ∧ va_S A s.heap H locs ∧ lv_has ls 2 [(1, .int l1_x31), (0, .ref (hJ 0))]) (fun join16 => ?_) ?_
          · refine W.tight (cells2 := (nF_tree_1 / 8 + 2 * nL_params_2 - (nF_tree / 8 + 2 * nL_params))) (slots2 := (2 * nF_tree_1 + 4 * nL_params_2 - (2 * nF_tree + 4 * nL_params))) hzk hnk ?_
            refine W.cut (pc := 210) (fun H9 locs9 ls9 stk9 => H = H9 ∧ locs = locs9 ∧ ls = ls9 ∧ [] = stk9) (fun k9 => ?_) ?_
            · by_cases s_90_256 : iT_kind_x31 = 256
              · have ts_90_256 : iT_kind_x31.toInt = 256 := toI_eq s_90_256 rfl (by decide)
                refine lv_tableIn (off := 78) (tgt := 168) hx hb dX4_readAll_90 (by rw [s_90_256]; decide) (by rw [s_90_256]; decide) (by rw [s_90_256]; decide) (by decide) ?_
                refine lv_aload_n hx hb dX4_readAll_168 rfl (lv_at hl 1 rfl) ?_
                refine W.known (fun hz0 hn0 => ?_)
                have hS0 := hS.1
                have p9 := cj_5_0_1_3 (WJ hJ aJ kJ hT hM hL (.ref dF_tree_1) 7 0 0 gJ_binder_x31 0 iJ_firstSet_x31 iJ_secondSet_x31) (WL hL aL kL hT hM (.ref dF_tree_1) iL_names_x31 gL_key_x31 fL_kind_x31 fL_one_x31 fL_two_x31 fL_base_x31 iL_params_x31 fL_paramOver_x31 dL_paramOver_2 nL_params_2 fL_paramUnder_x31 dL_paramUnder_2 nL_pu_2 gL_over_x31 gL_under_x31 fL_bound_x31 iL_nameAt_89 iL_startAt_89 iL_steps_89 jL_scaleOver_x31 jL_scaleUnder_x31) (WF hF aF kF dF_tree_1 nF_tree_1 fF_tree_x31) (WT hT aT kT fT_tape dT_tape nT_tape iT_length iT_fault_x31 iT_place_x31 iT_kind_x31 iT_at_x31 iT_number_x31 jT_name_x31 iT_next_x31) (WM hM aM kM iM_stands iM_variables_x31 iM_rows_x31 iM_goals_x31 iM_differents_x31 iM_cases_x31 fM_from_x31 fM_to_x31 fM_whole_x31 fM_ways_x31 iM_plainRows_x31 fM_plainRow_x31 fM_kept_x31 fM_goalOver_x31 fM_goalUnder_x31 fM_goalMax_x31 fM_different_x31)
                have hPc := hP.mem (fun q h => p9.mem_iff.mpr (List.mem_append_left _ h))
                have hDc := (hD.perm p9).left
                have hKc : va_K (dC, dI) vwCl (tJ kJ ++ (tL kL ++ (tT kT))) _ := hK.sub [0, 1, 2, 3, 4, 5, 6, 7, 8, 9, 10, 12] rfl
                have hFc := freeG p9 hD hS hA
                refine vx_callv (vx_runV (As := []) (rest := []) ⟨hx, hb, hml, hown, hts⟩ (vx_Met.sV (m_X4_readSet l hst dC dI hJ aJ kJ hT hM hL (.ref dF_tree_1) 7 0 0 gJ_binder_x31 0 iJ_firstSet_x31 iJ_secondSet_x31 aL kL (.ref dF_tree_1) iL_names_x31 gL_key_x31 fL_kind_x31 fL_one_x31 fL_two_x31 fL_base_x31 iL_params_x31 fL_paramOver_x31 dL_paramOver_2 nL_params_2 fL_paramUnder_x31 dL_paramUnder_2 nL_pu_2 gL_over_x31 gL_under_x31 fL_bound_x31 iL_nameAt_89 iL_startAt_89 iL_steps_89 jL_scaleOver_x31 jL_scaleUnder_x31 aT kT fT_tape dT_tape nT_tape iT_length iT_fault_x31 iT_place_x31 iT_kind_x31 iT_at_x31 iT_number_x31 jT_name_x31 iT_next_x31 (show 0 ≤ (7 : Int32).toInt ∧ (7 : Int32).toInt ≤ 72200 from by decide) (show 0 ≤ (0 : Int32).toInt ∧ (0 : Int32).toInt ≤ 25 from by decide) (show 0 ≤ (0 : Int32).toInt ∧ (0 : Int32).toInt ≤ 64 from by decide) (b_iJ_firstSet_x31) (b_iJ_secondSet_x31) (b_iL_names_x31) b_fL_kind_x31 b_fL_two_x31 b_fL_base_x31 (b_iL_params_x31) (by first | exact b_nL_params_2 | with_reducible assumption | exact ⟨by omega, by omega⟩ | assumption) (by first | with_reducible assumption | omega | (rw [iI_t (by omega) (by omega)]; omega) | assumption) (by first | with_reducible assumption | omega | (rw [iI_t (by omega) (by omega)]; omega) | assumption) (by first | with_reducible assumption | omega | (rw [iI_t (by omega) (by omega)]; omega) | assumption) b_fT_tape (by first | exact b_nT_tape | with_reducible assumption | exact ⟨by omega, by omega⟩ | assumption) (b_iT_length) (b_iT_at_x31) (b_iT_number_x31) (b_iT_next_x31) (by first | with_reducible assumption | omega | assumption) (by first | with_reducible assumption | omega | (rw [iI_t (by omega) (by omega)]; omega) | decide | assumption) (by first | with_reducible assumption | omega | (rw [iI_t (by omega) (by omega)]; omega) | decide | assumption) (by first | with_reducible assumption | omega | (rw [iI_t (by omega) (by omega)]; omega) | decide | assumption) H.size) H) (cwV 0 hts gwsMX4_readAll_4 rfl rfl rfl (by decide +kernel) ⟨by first | decide +kernel | (dsimp only [headSpec] <;> omega), by first | decide +kernel | (dsimp only [headSpec] <;> omega)⟩) ⟨fun a U g mk q => by obtain ⟨q0, qh, q1, qP, qK, qD, qE⟩ := q; exact ⟨q0, qh, q1, qP, va_K.moved (u := U) (U := U.calling g mk a) (Vm.Alike.refl U.vm) qK, qD, qE.call⟩, va_recv hK hP (ci := 4) (q0 := 0) rfl rfl, fun U hU9 hW => ⟨rfl, hU9, by rw [hU9], by rw [hU9]; exact hPc, va_K.moved hW.alike hKc, hDc.weaken (fun _ _ _ _ => trivial), by rw [hU9]; exact (((hE : CE A s s.heap).kept hS.2.1).narrow (fun q h => hFc q h)).warm hW⟩⟩ rfl rfl hl.1 rfl (lv_room (Nat.le_of_ble_eq_true rfl)) dX4_readAll_169 ⟨by first | decide +kernel | (dsimp only [headSpec] <;> omega), by first | decide +kernel | (dsimp only [headSpec] <;> omega)⟩) hS (fun q _ h => hFc q h) hFc (fun q _ h => hFc q h) (fun E ce q9 u t9_ H locs ht hvm hw9 hB9 hz1 hk1 hS hc1 hc2 hc3 => ?_) (fun u t9_ H locs ht hvm hw9 hB9 hz1 hk1 hS => ?_)
                · revert u hw9 hB9
                  refine fz_p15 ?_
                  intro jJ_ownName_98 iL_names_98 gL_key_98 fL_kind_98 fL_one_98 fL_two_98 fL_base_98 iL_nameAt_98 iT_fault_98 iT_place_98 iT_kind_98 iT_at_98 iT_number_98 jT_name_98 iT_next_98 hw9 hB9
                  try dsimp only at hw9 hB9
                  revert hB9
                  refine fz_a2 ?_
                  intro hEx hB9
                  revert hw9
                  refine fz_a8 ?_
                  intro b_iL_names_98 b_fL_kind_98 b_fL_two_98 b_fL_base_98 b_iT_at_98 b_iT_number_98 b_iT_next_98 b_nm_98
                  have p8 := cj_5_0_1_3 (WJ hJ aJ kJ hT hM hL (.ref dF_tree_1) 7 0 jJ_ownName_98 gJ_binder_x31 0 iJ_firstSet_x31 iJ_secondSet_x31) (WL hL aL kL hT hM (.ref dF_tree_1) iL_names_98 gL_key_98 fL_kind_98 fL_one_98 fL_two_98 fL_base_98 iL_params_x31 fL_paramOver_x31 dL_paramOver_2 nL_params_2 fL_paramUnder_x31 dL_paramUnder_2 nL_pu_2 gL_over_x31 gL_under_x31 fL_bound_x31 iL_nameAt_98 iL_startAt_89 iL_steps_89 jL_scaleOver_x31 jL_scaleUnder_x31) (WF hF aF kF dF_tree_1 nF_tree_1 fF_tree_x31) (WT hT aT kT fT_tape dT_tape nT_tape iT_length iT_fault_98 iT_place_98 iT_kind_98 iT_at_98 iT_number_98 jT_name_98 iT_next_98) (WM hM aM kM iM_stands iM_variables_x31 iM_rows_x31 iM_goals_x31 iM_differents_x31 iM_cases_x31 fM_from_x31 fM_to_x31 fM_whole_x31 fM_ways_x31 iM_plainRows_x31 fM_plainRow_x31 fM_kept_x31 fM_goalOver_x31 fM_goalUnder_x31 fM_goalMax_x31 fM_different_x31)
                  obtain ⟨hP, hD⟩ := frameG p9 p8 hP hD hk1 hFc (fz_P ht hB9.1) hB9.2
                  subst hEx
                  refine vx_catch (own := RX4) (name := "java/lang/IllegalArgumentException") hown [] ⟨29, 224, 225, 95⟩ [] (by rw [htb]; rfl) (fun z hz => absurd hz List.not_mem_nil) (by decide) (by decide) (hts _ hm_m_X4_readAll_3) (va_Nw.use rfl (hE.2.2.1.1 (.castable "java/lang/IllegalArgumentException" "java/lang/IllegalArgumentException") (by decide +kernel))) hc1 hc2 hc3 ?_
                  refine lv_astore_n hx hb dX4_readAll_225 rfl hl (by decide) rfl (fun ls (hl : lv_has ls _ ([(1, .ref q9), (0, .ref (hJ 0))])) => ?_)
                  refine lv_iconst (v := 0) hx hb dX4_readAll_226 (by decide) ?_
                  refine W.known (fun hz9 hn9 => ?_)
                  refine W.widen (k := 24027) (n := 448800) (by omega) (by omega) ?_
                  exact W.zret (v := 0) hx hb hr rfl (fun t9_ ht hW => ⟨⟨(0 : Int32), (7, 0, jJ_ownName_98, gJ_binder_x31, 0, iJ_firstSet_x31, iJ_secondSet_x31, (.ref dF_tree_1), iL_names_98, gL_key_98, fL_kind_98, fL_one_98, fL_two_98, fL_base_98, iL_params_x31, fL_paramOver_x31, dL_paramOver_2, nL_params_2, fL_paramUnder_x31, dL_paramUnder_2, nL_pu_2, gL_over_x31, gL_under_x31, fL_bound_x31, iL_nameAt_98, iL_startAt_89, iL_steps_89, jL_scaleOver_x31, jL_scaleUnder_x31, dF_tree_1, nF_tree_1, fF_tree_x31, iT_fault_98, iT_place_98, iT_kind_98, iT_at_98, iT_number_98, jT_name_98, iT_next_98, iM_variables_x31, iM_rows_x31, iM_goals_x31, iM_differents_x31, iM_cases_x31, fM_from_x31, fM_to_x31, fM_whole_x31, fM_ways_x31, iM_plainRows_x31, fM_plainRow_x31, fM_kept_x31, fM_goalOver_x31, fM_goalUnder_x31, fM_goalMax_x31, fM_different_x31), rfl, ⟨(by (try dsimp only); exact (show 0 ≤ (7 : Int32).toInt ∧ (7 : Int32).toInt ≤ 72200 from by decide)), (by (try dsimp only); exact (show 0 ≤ (0 : Int32).toInt ∧ (0 : Int32).toInt ≤ 25 from by decide)), (by (try dsimp only); exact (show 0 ≤ (0 : Int32).toInt ∧ (0 : Int32).toInt ≤ 64 from by decide)), b_iJ_firstSet_x31, b_iJ_secondSet_x31, b_iL_names_98, b_fL_kind_98, b_fL_two_98, b_fL_base_98, b_iL_params_x31, (by (try dsimp only); exact (by first | exact b_nL_params_2 | with_reducible assumption | exact ⟨by omega, by omega⟩ | assumption)), (by (try dsimp only); exact (by first | exact b_nF_tree_1 | with_reducible assumption | exact ⟨by omega, by omega⟩ | assumption)), b_iT_at_98, b_iT_number_98, b_iT_next_98, b_iM_variables_x31, b_iM_rows_x31, b_iM_goals_x31, b_iM_differents_x31, b_iM_cases_x31, b_fM_ways_x31, b_iM_plainRows_x31, b_fM_plainRow_x31, (by (try dsimp only); exact (by first | with_reducible assumption | omega | (rw [iI_t (by omega) (by omega)]; omega) | assumption)), (by (try dsimp only); exact (by first | with_reducible assumption | omega | (rw [iI_t (by omega) (by omega)]; omega) | assumption)), (by (try dsimp only); exact (by first | with_reducible assumption | omega | (rw [iI_t (by omega) (by omega)]; omega) | assumption)), (by (try dsimp only); exact (by first | with_reducible assumption | omega | assumption)), (show 0 ≤ (0 : Int32).toInt ∧ (0 : Int32).toInt ≤ 1 from by decide), (by (try dsimp only); omega), (by (try dsimp only); omega), (by (try dsimp only); first | (intro _; assumption) | (intro h9; exact absurd (by decide) h9) | (intro _; omega))⟩, by rw [ht]; exact hP, hD, by rw [ht]; (try dsimp only); omega, by rw [ht]; (try dsimp only); omega⟩, hS.F ht⟩) hS.2.2 dX4_readAll_227
                revert u hw9 hB9
                refine fz_p15 ?_
                intro jJ_ownName_98 iL_names_98 gL_key_98 fL_kind_98 fL_one_98 fL_two_98 fL_base_98 iL_nameAt_98 iT_fault_98 iT_place_98 iT_kind_98 iT_at_98 iT_number_98 jT_name_98 iT_next_98 hw9 hB9
                try dsimp only at hw9 hB9
                revert hw9
                refine fz_a12 ?_
                intro b_iL_names_98 b_fL_kind_98 b_fL_two_98 b_fL_base_98 b_iT_at_98 b_iT_number_98 b_iT_next_98 b_nm_98 f98_0 f98_1 f98_2 f98_3
                have hz8 := hB9.1.2.2
                rw [ht] at hz8
                have hSz := hB9.2
                rw [ht] at hSz
                have p8 := cj_5_0_1_3 (WJ hJ aJ kJ hT hM hL (.ref dF_tree_1) 7 0 jJ_ownName_98 gJ_binder_x31 0 iJ_firstSet_x31 iJ_secondSet_x31) (WL hL aL kL hT hM (.ref dF_tree_1) iL_names_98 gL_key_98 fL_kind_98 fL_one_98 fL_two_98 fL_base_98 iL_params_x31 fL_paramOver_x31 dL_paramOver_2 nL_params_2 fL_paramUnder_x31 dL_paramUnder_2 nL_pu_2 gL_over_x31 gL_under_x31 fL_bound_x31 iL_nameAt_98 iL_startAt_89 iL_steps_89 jL_scaleOver_x31 jL_scaleUnder_x31) (WF hF aF kF dF_tree_1 nF_tree_1 fF_tree_x31) (WT hT aT kT fT_tape dT_tape nT_tape iT_length iT_fault_98 iT_place_98 iT_kind_98 iT_at_98 iT_number_98 jT_name_98 iT_next_98) (WM hM aM kM iM_stands iM_variables_x31 iM_rows_x31 iM_goals_x31 iM_differents_x31 iM_cases_x31 fM_from_x31 fM_to_x31 fM_whole_x31 fM_ways_x31 iM_plainRows_x31 fM_plainRow_x31 fM_kept_x31 fM_goalOver_x31 fM_goalUnder_x31 fM_goalMax_x31 fM_different_x31)
                obtain ⟨hP, hD⟩ := frameG p9 p8 hP hD hk1 hFc (fz_P ht hB9.1.1) hB9.1.2.1
                have hz9 : H.size ≤ s.heap.size + (nF_tree_1 / 8 + 2 * nL_params_2 - (nF_tree / 8 + 2 * nL_params)) := by rw [hz8]; exact hz0
                have hn9 : nS s.heap.size H ≤ (2 * nF_tree_1 + 4 * nL_params_2 - (2 * nF_tree + 4 * nL_params)) := Nat.le_trans (Nat.le_of_eq (hSz.n hS0)) (Nat.le_trans (Nat.add_le_add hn0 (nS_0 (k := 0) (Nat.le_of_eq hz8))) (Nat.le_of_eq (Nat.add_zero _)))
                refine W.tight (cells2 := (nF_tree_1 / 8 + 2 * nL_params_2 - (nF_tree / 8 + 2 * nL_params))) (slots2 := (2 * nF_tree_1 + 4 * nL_params_2 - (2 * nF_tree + 4 * nL_params))) hz9 hn9 ?_
                clear hz9 hn9 hz0 hn0 hS0 hSz hz8
                refine lv_goto (tgt := 217) hx hb dX4_readAll_172 (by decide) ?_
                have hl : lv_has _ _ ([(1, .int l1_x31), (0, .ref (hJ 0))]) := lv_sub hl [0, 1] rfl
                refine W.known (fun hza hna => ?_)
                refine W.widen (k := 15000) (n := 160000) (by omega) (by omega) ?_
                exact join16 _ _ _ _ ⟨7, 0, jJ_ownName_98, gJ_binder_x31, 0, iJ_firstSet_x31, iJ_secondSet_x31, iL_names_98, gL_key_98, fL_kind_98, fL_one_98, fL_two_98, fL_base_98, iL_params_x31, fL_paramOver_x31, fL_paramUnder_x31, gL_over_x31, gL_under_x31, fL_bound_x31, iL_nameAt_98, iL_steps_89, jL_scaleOver_x31, jL_scaleUnder_x31, fF_tree_x31, iT_fault_98, iT_place_98, iT_kind_98, iT_at_98, iT_number_98, jT_name_98, iT_next_98, iM_variables_x31, iM_rows_x31, iM_goals_x31, iM_differents_x31, iM_cases_x31, fM_from_x31, fM_to_x31, fM_whole_x31, fM_ways_x31, iM_plainRows_x31, fM_plainRow_x31, fM_kept_x31, fM_goalOver_x31, fM_goalUnder_x31, fM_goalMax_x31, fM_different_x31, (show 0 ≤ (7 : Int32).toInt ∧ (7 : Int32).toInt ≤ 72200 from by decide), (show 0 ≤ (0 : Int32).toInt ∧ (0 : Int32).toInt ≤ 25 from by decide), (show 0 ≤ (0 : Int32).toInt ∧ (0 : Int32).toInt ≤ 64 from by decide), (b_iJ_firstSet_x31), (b_iJ_secondSet_x31), (b_iL_names_98), b_fL_kind_98, b_fL_two_98, b_fL_base_98, (b_iL_params_x31), (b_iT_at_98), (b_iT_number_98), (b_iT_next_98), (b_iM_variables_x31), (b_iM_rows_x31), (b_iM_goals_x31), (b_iM_differents_x31), (b_iM_cases_x31), b_fM_ways_x31, (b_iM_plainRows_x31), b_fM_plainRow_x31, (by first | with_reducible assumption | omega | (rw [iI_t (by omega) (by omega)]; omega) | assumption), (by first | with_reducible assumption | omega | (rw [iI_t (by omega) (by omega)]; omega) | assumption), (by first | with_reducible assumption | omega | assumption), (show iT_at_98.toInt ≤ iT_next_98.toInt from by first | assumption | omega), (show iT_next_98.toInt ≤ iT_length.toInt from by first | assumption | omega), (show (iT_kind_98.toInt = 44 ∨ iT_kind_98.toInt = 61) → iT_at_98.toInt < iT_next_98.toInt from by first | assumption | omega), (show iL_params_x31.toInt ≤ iT_at_98.toInt from by omega), (show iM_cases_x31.toInt ≤ 64 from by omega), ⟨by omega, by omega⟩, rfl, hP, hD, hS, hl⟩
              · skip
                by_cases s_90_257 : iT_kind_x31 = 257
                · have ts_90_257 : iT_kind_x31.toInt = 257 := toI_eq s_90_257 rfl (by decide)
                  refine lv_tableIn (off := 85) (tgt := 175) hx hb dX4_readAll_90 (by rw [s_90_257]; decide) (by rw [s_90_257]; decide) (by rw [s_90_257]; decide) (by decide) ?_
                  refine lv_aload_n hx hb dX4_readAll_175 rfl (lv_at hl 1 rfl) ?_
                  refine W.known (fun hz0 hn0 => ?_)
                  have hS0 := hS.1
                  have hFc := allFree hD hS hA
                  refine vx_callv (vx_runV (As := []) (rest := []) ⟨hx, hb, hml, hown, hts⟩ (vx_Met.sV (m_X4_readParam l hst dC dI hJ aJ kJ hT hM hL 7 0 0 gJ_binder_x31 0 iJ_firstSet_x31 iJ_secondSet_x31 aL kL iL_names_x31 gL_key_x31 fL_kind_x31 fL_one_x31 fL_two_x31 fL_base_x31 iL_params_x31 fL_paramOver_x31 dL_paramOver_2 nL_params_2 fL_paramUnder_x31 dL_paramUnder_2 nL_pu_2 gL_over_x31 gL_under_x31 fL_bound_x31 iL_nameAt_89 iL_startAt_89 iL_steps_89 jL_scaleOver_x31 jL_scaleUnder_x31 hF aF kF dF_tree_1 nF_tree_1 fF_tree_x31 aT kT fT_tape dT_tape nT_tape iT_length iT_fault_x31 iT_place_x31 iT_kind_x31 iT_at_x31 iT_number_x31 jT_name_x31 iT_next_x31 aM kM iM_stands iM_variables_x31 iM_rows_x31 iM_goals_x31 iM_differents_x31 iM_cases_x31 fM_from_x31 fM_to_x31 fM_whole_x31 fM_ways_x31 iM_plainRows_x31 fM_plainRow_x31 fM_kept_x31 fM_goalOver_x31 fM_goalUnder_x31 fM_goalMax_x31 fM_different_x31 (show 0 ≤ (7 : Int32).toInt ∧ (7 : Int32).toInt ≤ 72200 from by decide) (show 0 ≤ (0 : Int32).toInt ∧ (0 : Int32).toInt ≤ 25 from by decide) (show 0 ≤ (0 : Int32).toInt ∧ (0 : Int32).toInt ≤ 64 from by decide) (b_iJ_firstSet_x31) (b_iJ_secondSet_x31) (b_iL_names_x31) b_fL_kind_x31 b_fL_two_x31 b_fL_base_x31 (b_iL_params_x31) (by first | exact b_nL_params_2 | with_reducible assumption | exact ⟨by omega, by omega⟩ | assumption) (by first | with_reducible assumption | omega | (rw [iI_t (by omega) (by omega)]; omega) | assumption) (by first | with_reducible assumption | omega | (rw [iI_t (by omega) (by omega)]; omega) | assumption) (by first | with_reducible assumption | omega | (rw [iI_t (by omega) (by omega)]; omega) | assumption) (by first | exact b_nF_tree_1 | with_reducible assumption | exact ⟨by omega, by omega⟩ | assumption) b_fT_tape (by first | exact b_nT_tape | with_reducible assumption | exact ⟨by omega, by omega⟩ | assumption) (b_iT_length) (b_iT_at_x31) (b_iT_number_x31) (b_iT_next_x31) (by first | with_reducible assumption | omega | assumption) (b_iM_stands) (b_iM_variables_x31) (b_iM_rows_x31) (b_iM_goals_x31) (b_iM_differents_x31) (b_iM_cases_x31) b_fM_ways_x31 (b_iM_plainRows_x31) b_fM_plainRow_x31 (by first | with_reducible assumption | omega | assumption) (by decide) (by have h7 : (7 : Int32).toInt = 7 := (by decide); omega) (by decide) (by first | with_reducible assumption | omega | (rw [iI_t (by omega) (by omega)]; omega) | decide | assumption) (by first | with_reducible assumption | omega | (rw [iI_t (by omega) (by omega)]; omega) | decide | assumption) (by first | with_reducible assumption | omega | (rw [iI_t (by omega) (by omega)]; omega) | decide | assumption) (by decide) (by first | with_reducible assumption | omega | (rw [iI_t (by omega) (by omega)]; omega) | decide | assumption) (by first | with_reducible assumption | omega | (rw [iI_t (by omega) (by omega)]; omega) | decide | assumption) (by first | with_reducible assumption | omega | (rw [iI_t (by omega) (by omega)]; omega) | decide | assumption) H.size) H) (cwV 0 hts gwsMX4_readAll_5 rfl rfl rfl (by decide +kernel) ⟨by first | decide +kernel | (dsimp only [headSpec] <;> omega), by first | decide +kernel | (dsimp only [headSpec] <;> omega)⟩) ⟨fun a U g mk q => by obtain ⟨q0, qh, q1, qP, qK, qD, qE⟩ := q; exact ⟨q0, qh, q1, qP, va_K.moved (u := U) (U := U.calling g mk a) (Vm.Alike.refl U.vm) qK, qD, qE.call⟩, va_recv hK hP (ci := 4) (q0 := 0) rfl rfl, fun U hU9 hW => ⟨rfl, hU9, by rw [hU9], by rw [hU9]; exact hP, va_K.moved hW.alike hK, hD.weaken (fun _ _ _ _ => trivial), by rw [hU9]; exact (((hE : CE A s s.heap).kept hS.2.1).narrow (fun q h => hFc q h)).warm hW⟩⟩ rfl rfl hl.1 rfl (lv_room (Nat.le_of_ble_eq_true rfl)) dX4_readAll_176 ⟨by first | decide +kernel | (dsimp only [headSpec] <;> omega), by first | decide +kernel | (dsimp only [headSpec] <;> omega)⟩) hS (fun q _ h => hFc q h) hFc (fun q _ h => hFc q h) (fun E ce q9 u t9_ H locs ht hvm hw9 hB9 hz1 hk1 hS hc1 hc2 hc3 => ?_) (fun u t9_ H locs ht hvm hw9 hB9 hz1 hk1 hS => ?_)
                  · revert u hw9 hB9
                    refine fz_p29 ?_
                    intro iJ_used_99 iJ_depth_99 jJ_ownName_99 gJ_binder_99 iJ_binders_99 iJ_firstSet_99 iJ_secondSet_99 iL_names_99 gL_key_99 fL_kind_99 fL_one_99 fL_two_99 fL_base_99 iL_params_99 fL_paramOver_99 fL_paramUnder_99 gL_over_99 gL_under_99 fL_bound_99 iL_nameAt_99 iL_steps_99 fF_tree_99 iT_fault_99 iT_place_99 iT_kind_99 iT_at_99 iT_number_99 jT_name_99 iT_next_99 hw9 hB9
                    try dsimp only at hw9 hB9
                    revert hB9
                    refine fz_a2 ?_
                    intro hEx hB9
                    revert hw9
                    refine fz_a15 ?_
                    intro b_iJ_used_99 b_iJ_depth_99 b_iJ_binders_99 b_iJ_firstSet_99 b_iJ_secondSet_99 b_iL_names_99 b_fL_kind_99 b_fL_two_99 b_fL_base_99 b_iL_params_99 b_iT_at_99 b_iT_number_99 b_iT_next_99 b_nm_99 b_pm_99
                    have hP : va_P (dC, dI) vwCl (WJ hJ aJ kJ hT hM hL (.ref dF_tree_1) iJ_used_99 iJ_depth_99 jJ_ownName_99 gJ_binder_99 iJ_binders_99 iJ_firstSet_99 iJ_secondSet_99 ++ (WL hL aL kL hT hM (.ref dF_tree_1) iL_names_99 gL_key_99 fL_kind_99 fL_one_99 fL_two_99 fL_base_99 iL_params_99 fL_paramOver_99 dL_paramOver_2 nL_params_2 fL_paramUnder_99 dL_paramUnder_2 nL_pu_2 gL_over_99 gL_under_99 fL_bound_99 iL_nameAt_99 iL_startAt_89 iL_steps_99 jL_scaleOver_x31 jL_scaleUnder_x31 ++ (WF hF aF kF dF_tree_1 nF_tree_1 fF_tree_99 ++ (WT hT aT kT fT_tape dT_tape nT_tape iT_length iT_fault_99 iT_place_99 iT_kind_99 iT_at_99 iT_number_99 jT_name_99 iT_next_99 ++ (WM hM aM kM iM_stands iM_variables_x31 iM_rows_x31 iM_goals_x31 iM_differents_x31 iM_cases_x31 fM_from_x31 fM_to_x31 fM_whole_x31 fM_ways_x31 iM_plainRows_x31 fM_plainRow_x31 fM_kept_x31 fM_goalOver_x31 fM_goalUnder_x31 fM_goalMax_x31 fM_different_x31))))) H := fz_P ht hB9.1
                    have hD := fz_sd hP (hB9.2.weaken (fun _ q _ h => hFc q.1 h)) rfl
                    subst hEx
                    refine vx_catch (own := RX4) (name := "java/lang/IllegalArgumentException") hown [] ⟨29, 224, 225, 95⟩ [] (by rw [htb]; rfl) (fun z hz => absurd hz List.not_mem_nil) (by decide) (by decide) (hts _ hm_m_X4_readAll_3) (va_Nw.use rfl (hE.2.2.1.1 (.castable "java/lang/IllegalArgumentException" "java/lang/IllegalArgumentException") (by decide +kernel))) hc1 hc2 hc3 ?_
                    refine lv_astore_n hx hb dX4_readAll_225 rfl hl (by decide) rfl (fun ls (hl : lv_has ls _ ([(1, .ref q9), (0, .ref (hJ 0))])) => ?_)
                    refine lv_iconst (v := 0) hx hb dX4_readAll_226 (by decide) ?_
                    refine W.known (fun hz9 hn9 => ?_)
                    refine W.widen (k := 24027) (n := 448800) (by omega) (by omega) ?_
                    exact W.zret (v := 0) hx hb hr rfl (fun t9_ ht hW => ⟨⟨(0 : Int32), (iJ_used_99, iJ_depth_99, jJ_ownName_99, gJ_binder_99, iJ_binders_99, iJ_firstSet_99, iJ_secondSet_99, (.ref dF_tree_1), iL_names_99, gL_key_99, fL_kind_99, fL_one_99, fL_two_99, fL_base_99, iL_params_99, fL_paramOver_99, dL_paramOver_2, nL_params_2, fL_paramUnder_99, dL_paramUnder_2, nL_pu_2, gL_over_99, gL_under_99, fL_bound_99, iL_nameAt_99, iL_startAt_89, iL_steps_99, jL_scaleOver_x31, jL_scaleUnder_x31, dF_tree_1, nF_tree_1, fF_tree_99, iT_fault_99, iT_place_99, iT_kind_99, iT_at_99, iT_number_99, jT_name_99, iT_next_99, iM_variables_x31, iM_rows_x31, iM_goals_x31, iM_differents_x31, iM_cases_x31, fM_from_x31, fM_to_x31, fM_whole_x31, fM_ways_x31, iM_plainRows_x31, fM_plainRow_x31, fM_kept_x31, fM_goalOver_x31, fM_goalUnder_x31, fM_goalMax_x31, fM_different_x31), rfl, ⟨b_iJ_used_99, b_iJ_depth_99, b_iJ_binders_99, b_iJ_firstSet_99, b_iJ_secondSet_99, b_iL_names_99, b_fL_kind_99, b_fL_two_99, b_fL_base_99, b_iL_params_99, (by (try dsimp only); exact (by first | exact b_nL_params_2 | with_reducible assumption | exact ⟨by omega, by omega⟩ | assumption)), (by (try dsimp only); exact (by first | exact b_nF_tree_1 | with_reducible assumption | exact ⟨by omega, by omega⟩ | assumption)), b_iT_at_99, b_iT_number_99, b_iT_next_99, b_iM_variables_x31, b_iM_rows_x31, b_iM_goals_x31, b_iM_differents_x31, b_iM_cases_x31, b_fM_ways_x31, b_iM_plainRows_x31, b_fM_plainRow_x31, (by (try dsimp only); exact (by first | with_reducible assumption | omega | (rw [iI_t (by omega) (by omega)]; omega) | assumption)), (by (try dsimp only); exact (by first | with_reducible assumption | omega | (rw [iI_t (by omega) (by omega)]; omega) | assumption)), (by (try dsimp only); exact (by first | with_reducible assumption | omega | (rw [iI_t (by omega) (by omega)]; omega) | assumption)), (by (try dsimp only); exact (by first | with_reducible assumption | omega | assumption)), (show 0 ≤ (0 : Int32).toInt ∧ (0 : Int32).toInt ≤ 1 from by decide), (by (try dsimp only); omega), (by (try dsimp only); omega), (by (try dsimp only); first | (intro _; assumption) | (intro h9; exact absurd (by decide) h9) | (intro _; omega))⟩, by rw [ht]; exact hP, hD, by rw [ht]; (try dsimp only); omega, by rw [ht]; (try dsimp only); omega⟩, hS.F ht⟩) hS.2.2 dX4_readAll_227
                  revert u hw9 hB9
                  refine fz_p29 ?_
                  intro iJ_used_99 iJ_depth_99 jJ_ownName_99 gJ_binder_99 iJ_binders_99 iJ_firstSet_99 iJ_secondSet_99 iL_names_99 gL_key_99 fL_kind_99 fL_one_99 fL_two_99 fL_base_99 iL_params_99 fL_paramOver_99 fL_paramUnder_99 gL_over_99 gL_under_99 fL_bound_99 iL_nameAt_99 iL_steps_99 fF_tree_99 iT_fault_99 iT_place_99 iT_kind_99 iT_at_99 iT_number_99 jT_name_99 iT_next_99 hw9 hB9
                  try dsimp only at hw9 hB9
                  revert hw9
                  refine fz_a20 ?_
                  intro b_iJ_used_99 b_iJ_depth_99 b_iJ_binders_99 b_iJ_firstSet_99 b_iJ_secondSet_99 b_iL_names_99 b_fL_kind_99 b_fL_two_99 b_fL_base_99 b_iL_params_99 b_iT_at_99 b_iT_number_99 b_iT_next_99 b_nm_99 b_pm_99 f99_0 f99_1 f99_2 f99_3 f99_4
                  have hz8 := hB9.1.2.2
                  rw [ht] at hz8
                  have hSz := hB9.2
                  rw [ht] at hSz
                  have hP : va_P (dC, dI) vwCl (WJ hJ aJ kJ hT hM hL (.ref dF_tree_1) iJ_used_99 iJ_depth_99 jJ_ownName_99 gJ_binder_99 iJ_binders_99 iJ_firstSet_99 iJ_secondSet_99 ++ (WL hL aL kL hT hM (.ref dF_tree_1) iL_names_99 gL_key_99 fL_kind_99 fL_one_99 fL_two_99 fL_base_99 iL_params_99 fL_paramOver_99 dL_paramOver_2 nL_params_2 fL_paramUnder_99 dL_paramUnder_2 nL_pu_2 gL_over_99 gL_under_99 fL_bound_99 iL_nameAt_99 iL_startAt_89 iL_steps_99 jL_scaleOver_x31 jL_scaleUnder_x31 ++ (WF hF aF kF dF_tree_1 nF_tree_1 fF_tree_99 ++ (WT hT aT kT fT_tape dT_tape nT_tape iT_length iT_fault_99 iT_place_99 iT_kind_99 iT_at_99 iT_number_99 jT_name_99 iT_next_99 ++ (WM hM aM kM iM_stands iM_variables_x31 iM_rows_x31 iM_goals_x31 iM_differents_x31 iM_cases_x31 fM_from_x31 fM_to_x31 fM_whole_x31 fM_ways_x31 iM_plainRows_x31 fM_plainRow_x31 fM_kept_x31 fM_goalOver_x31 fM_goalUnder_x31 fM_goalMax_x31 fM_different_x31))))) H := fz_P ht hB9.1.1
                  have hD := fz_sd hP (hB9.1.2.1.weaken (fun _ q _ h => hFc q.1 h)) rfl
                  have hz9 : H.size ≤ s.heap.size + (nF_tree_1 / 8 + 2 * nL_params_2 - (nF_tree / 8 + 2 * nL_params)) := by rw [hz8]; exact hz0
                  have hn9 : nS s.heap.size H ≤ (2 * nF_tree_1 + 4 * nL_params_2 - (2 * nF_tree + 4 * nL_params)) := Nat.le_trans (Nat.le_of_eq (hSz.n hS0)) (Nat.le_trans (Nat.add_le_add hn0 (nS_0 (k := 0) (Nat.le_of_eq hz8))) (Nat.le_of_eq (Nat.add_zero _)))
                  refine W.tight (cells2 := (nF_tree_1 / 8 + 2 * nL_params_2 - (nF_tree / 8 + 2 * nL_params))) (slots2 := (2 * nF_tree_1 + 4 * nL_params_2 - (2 * nF_tree + 4 * nL_params))) hz9 hn9 ?_
                  clear hz9 hn9 hz0 hn0 hS0 hSz hz8
                  refine lv_goto (tgt := 217) hx hb dX4_readAll_179 (by decide) ?_
                  have hl : lv_has _ _ ([(1, .int l1_x31), (0, .ref (hJ 0))]) := lv_sub hl [0, 1] rfl
                  refine W.known (fun hza hna => ?_)
                  refine W.widen (k := 15000) (n := 160000) (by omega) (by omega) ?_
                  exact join16 _ _ _ _ ⟨iJ_used_99, iJ_depth_99, jJ_ownName_99, gJ_binder_99, iJ_binders_99, iJ_firstSet_99, iJ_secondSet_99, iL_names_99, gL_key_99, fL_kind_99, fL_one_99, fL_two_99, fL_base_99, iL_params_99, fL_paramOver_99, fL_paramUnder_99, gL_over_99, gL_under_99, fL_bound_99, iL_nameAt_99, iL_steps_99, jL_scaleOver_x31, jL_scaleUnder_x31, fF_tree_99, iT_fault_99, iT_place_99, iT_kind_99, iT_at_99, iT_number_99, jT_name_99, iT_next_99, iM_variables_x31, iM_rows_x31, iM_goals_x31, iM_differents_x31, iM_cases_x31, fM_from_x31, fM_to_x31, fM_whole_x31, fM_ways_x31, iM_plainRows_x31, fM_plainRow_x31, fM_kept_x31, fM_goalOver_x31, fM_goalUnder_x31, fM_goalMax_x31, fM_different_x31, (b_iJ_used_99), (b_iJ_depth_99), (b_iJ_binders_99), (b_iJ_firstSet_99), (b_iJ_secondSet_99), (b_iL_names_99), b_fL_kind_99, b_fL_two_99, b_fL_base_99, (b_iL_params_99), (b_iT_at_99), (b_iT_number_99), (b_iT_next_99), (b_iM_variables_x31), (b_iM_rows_x31), (b_iM_goals_x31), (b_iM_differents_x31), (b_iM_cases_x31), b_fM_ways_x31, (b_iM_plainRows_x31), b_fM_plainRow_x31, (by first | with_reducible assumption | omega | (rw [iI_t (by omega) (by omega)]; omega) | assumption), (by first | with_reducible assumption | omega | (rw [iI_t (by omega) (by omega)]; omega) | assumption), (by first | with_reducible assumption | omega | assumption), (show iT_at_99.toInt ≤ iT_next_99.toInt from by first | assumption | omega), (show iT_next_99.toInt ≤ iT_length.toInt from by first | assumption | omega), (show (iT_kind_99.toInt = 44 ∨ iT_kind_99.toInt = 61) → iT_at_99.toInt < iT_next_99.toInt from by first | assumption | omega), (show iL_params_99.toInt ≤ iT_at_99.toInt from by omega), (show iM_cases_x31.toInt ≤ 64 from by omega), ⟨by omega, by omega⟩, rfl, hP, hD, hS, hl⟩
                · skip
                  by_cases s_90_258 : iT_kind_x31 = 258
                  · have ts_90_258 : iT_kind_x31.toInt = 258 := toI_eq s_90_258 rfl (by decide)
                    refine lv_tableIn (off := 92) (tgt := 182) hx hb dX4_readAll_90 (by rw [s_90_258]; decide) (by rw [s_90_258]; decide) (by rw [s_90_258]; decide) (by decide) ?_
                    refine lv_aload_n hx hb dX4_readAll_182 rfl (lv_at hl 1 rfl) ?_
                    refine W.known (fun hz0 hn0 => ?_)
                    have hS0 := hS.1
                    have hFc := allFree hD hS hA
                    refine vx_callv (vx_runV (As := []) (rest := []) ⟨hx, hb, hml, hown, hts⟩ (vx_Met.sV (m_X4_readVar l hst dC dI hJ aJ kJ hT hM hL 7 0 0 gJ_binder_x31 0 iJ_firstSet_x31 iJ_secondSet_x31 aL kL iL_names_x31 gL_key_x31 fL_kind_x31 fL_one_x31 fL_two_x31 fL_base_x31 iL_params_x31 fL_paramOver_x31 dL_paramOver_2 nL_params_2 fL_paramUnder_x31 dL_paramUnder_2 nL_pu_2 gL_over_x31 gL_under_x31 fL_bound_x31 iL_nameAt_89 iL_startAt_89 iL_steps_89 jL_scaleOver_x31 jL_scaleUnder_x31 hF aF kF dF_tree_1 nF_tree_1 fF_tree_x31 aT kT fT_tape dT_tape nT_tape iT_length iT_fault_x31 iT_place_x31 iT_kind_x31 iT_at_x31 iT_number_x31 jT_name_x31 iT_next_x31 aM kM iM_stands iM_variables_x31 iM_rows_x31 iM_goals_x31 iM_differents_x31 iM_cases_x31 fM_from_x31 fM_to_x31 fM_whole_x31 fM_ways_x31 iM_plainRows_x31 fM_plainRow_x31 fM_kept_x31 fM_goalOver_x31 fM_goalUnder_x31 fM_goalMax_x31 fM_different_x31 (show 0 ≤ (7 : Int32).toInt ∧ (7 : Int32).toInt ≤ 72200 from by decide) (show 0 ≤ (0 : Int32).toInt ∧ (0 : Int32).toInt ≤ 25 from by decide) (show 0 ≤ (0 : Int32).toInt ∧ (0 : Int32).toInt ≤ 64 from by decide) (b_iJ_firstSet_x31) (b_iJ_secondSet_x31) (b_iL_names_x31) b_fL_kind_x31 b_fL_two_x31 b_fL_base_x31 (b_iL_params_x31) (by first | exact b_nL_params_2 | with_reducible assumption | exact ⟨by omega, by omega⟩ | assumption) (by first | with_reducible assumption | omega | (rw [iI_t (by omega) (by omega)]; omega) | assumption) (by first | with_reducible assumption | omega | (rw [iI_t (by omega) (by omega)]; omega) | assumption) (by first | with_reducible assumption | omega | (rw [iI_t (by omega) (by omega)]; omega) | assumption) (by first | exact b_nF_tree_1 | with_reducible assumption | exact ⟨by omega, by omega⟩ | assumption) b_fT_tape (by first | exact b_nT_tape | with_reducible assumption | exact ⟨by omega, by omega⟩ | assumption) (b_iT_length) (b_iT_at_x31) (b_iT_number_x31) (b_iT_next_x31) (by first | with_reducible assumption | omega | assumption) (b_iM_stands) (b_iM_variables_x31) (b_iM_rows_x31) (b_iM_goals_x31) (b_iM_differents_x31) (b_iM_cases_x31) b_fM_ways_x31 (b_iM_plainRows_x31) b_fM_plainRow_x31 (by first | with_reducible assumption | omega | assumption) (by decide) (by have h7 : (7 : Int32).toInt = 7 := (by decide); omega) (by decide) (by first | with_reducible assumption | omega | (rw [iI_t (by omega) (by omega)]; omega) | decide | assumption) (by first | with_reducible assumption | omega | (rw [iI_t (by omega) (by omega)]; omega) | decide | assumption) (by first | with_reducible assumption | omega | (rw [iI_t (by omega) (by omega)]; omega) | decide | assumption) (by decide) (by first | with_reducible assumption | omega | (rw [iI_t (by omega) (by omega)]; omega) | decide | assumption) (by first | with_reducible assumption | omega | (rw [iI_t (by omega) (by omega)]; omega) | decide | assumption) (by first | with_reducible assumption | omega | (rw [iI_t (by omega) (by omega)]; omega) | decide | assumption) H.size) H) (cwV 0 hts gwsMX4_readAll_6 rfl rfl rfl (by decide +kernel) ⟨by first | decide +kernel | (dsimp only [headSpec] <;> omega), by first | decide +kernel | (dsimp only [headSpec] <;> omega)⟩) ⟨fun a U g mk q => by obtain ⟨q0, qh, q1, qP, qK, qD, qE⟩ := q; exact ⟨q0, qh, q1, qP, va_K.moved (u := U) (U := U.calling g mk a) (Vm.Alike.refl U.vm) qK, qD, qE.call⟩, va_recv hK hP (ci := 4) (q0 := 0) rfl rfl, fun U hU9 hW => ⟨rfl, hU9, by rw [hU9], by rw [hU9]; exact hP, va_K.moved hW.alike hK, hD.weaken (fun _ _ _ _ => trivial), by rw [hU9]; exact (((hE : CE A s s.heap).kept hS.2.1).narrow (fun q h => hFc q h)).warm hW⟩⟩ rfl rfl hl.1 rfl (lv_room (Nat.le_of_ble_eq_true rfl)) dX4_readAll_183 ⟨by first | decide +kernel | (dsimp only [headSpec] <;> omega), by first | decide +kernel | (dsimp only [headSpec] <;> omega)⟩) hS (fun q _ h => hFc q h) hFc (fun q _ h => hFc q h) (fun E ce q9 u t9_ H locs ht hvm hw9 hB9 hz1 hk1 hS hc1 hc2 hc3 => ?_) (fun u t9_ H locs ht hvm hw9 hB9 hz1 hk1 hS => ?_)
                    · revert u hw9 hB9
                      refine fz_p31 ?_
                      intro iJ_used_100 iJ_depth_100 jJ_ownName_100 gJ_binder_100 iJ_binders_100 iJ_firstSet_100 iJ_secondSet_100 iL_names_100 gL_key_100 fL_kind_100 fL_one_100 fL_two_100 fL_base_100 gL_over_100 gL_under_100 fL_bound_100 iL_nameAt_100 iL_steps_100 fF_tree_100 iT_fault_100 iT_place_100 iT_kind_100 iT_at_100 iT_number_100 jT_name_100 iT_next_100 iM_variables_100 iM_cases_100 fM_from_100 fM_to_100 fM_whole_100 hw9 hB9
                      try dsimp only at hw9 hB9
                      revert hB9
                      refine fz_a2 ?_
                      intro hEx hB9
                      revert hw9
                      refine fz_a15 ?_
                      intro b_iJ_used_100 b_iJ_depth_100 b_iJ_binders_100 b_iJ_firstSet_100 b_iJ_secondSet_100 b_iL_names_100 b_fL_kind_100 b_fL_two_100 b_fL_base_100 b_iT_at_100 b_iT_number_100 b_iT_next_100 b_iM_variables_100 b_iM_cases_100 b_nm_100
                      have hP : va_P (dC, dI) vwCl (WJ hJ aJ kJ hT hM hL (.ref dF_tree_1) iJ_used_100 iJ_depth_100 jJ_ownName_100 gJ_binder_100 iJ_binders_100 iJ_firstSet_100 iJ_secondSet_100 ++ (WL hL aL kL hT hM (.ref dF_tree_1) iL_names_100 gL_key_100 fL_kind_100 fL_one_100 fL_two_100 fL_base_100 iL_params_x31 fL_paramOver_x31 dL_paramOver_2 nL_params_2 fL_paramUnder_x31 dL_paramUnder_2 nL_pu_2 gL_over_100 gL_under_100 fL_bound_100 iL_nameAt_100 iL_startAt_89 iL_steps_100 jL_scaleOver_x31 jL_scaleUnder_x31 ++ (WF hF aF kF dF_tree_1 nF_tree_1 fF_tree_100 ++ (WT hT aT kT fT_tape dT_tape nT_tape iT_length iT_fault_100 iT_place_100 iT_kind_100 iT_at_100 iT_number_100 jT_name_100 iT_next_100 ++ (WM hM aM kM iM_stands iM_variables_100 iM_rows_x31 iM_goals_x31 iM_differents_x31 iM_cases_100 fM_from_100 fM_to_100 fM_whole_100 fM_ways_x31 iM_plainRows_x31 fM_plainRow_x31 fM_kept_x31 fM_goalOver_x31 fM_goalUnder_x31 fM_goalMax_x31 fM_different_x31))))) H := fz_P ht hB9.1
                      have hD := fz_sd hP (hB9.2.weaken (fun _ q _ h => hFc q.1 h)) rfl
                      subst hEx
                      refine vx_catch (own := RX4) (name := "java/lang/IllegalArgumentException") hown [] ⟨29, 224, 225, 95⟩ [] (by rw [htb]; rfl) (fun z hz => absurd hz List.not_mem_nil) (by decide) (by decide) (hts _ hm_m_X4_readAll_3) (va_Nw.use rfl (hE.2.2.1.1 (.castable "java/lang/IllegalArgumentException" "java/lang/IllegalArgumentException") (by decide +kernel))) hc1 hc2 hc3 ?_
                      refine lv_astore_n hx hb dX4_readAll_225 rfl hl (by decide) rfl (fun ls (hl : lv_has ls _ ([(1, .ref q9), (0, .ref (hJ 0))])) => ?_)
                      refine lv_iconst (v := 0) hx hb dX4_readAll_226 (by decide) ?_
                      refine W.known (fun hz9 hn9 => ?_)
                      refine W.widen (k := 24027) (n := 448800) (by omega) (by omega) ?_
                      exact W.zret (v := 0) hx hb hr rfl (fun t9_ ht hW => ⟨⟨(0 : Int32), (iJ_used_100, iJ_depth_100, jJ_ownName_100, gJ_binder_100, iJ_binders_100, iJ_firstSet_100, iJ_secondSet_100, (.ref dF_tree_1), iL_names_100, gL_key_100, fL_kind_100, fL_one_100, fL_two_100, fL_base_100, iL_params_x31, fL_paramOver_x31, dL_paramOver_2, nL_params_2, fL_paramUnder_x31, dL_paramUnder_2, nL_pu_2, gL_over_100, gL_under_100, fL_bound_100, iL_nameAt_100, iL_startAt_89, iL_steps_100, jL_scaleOver_x31, jL_scaleUnder_x31, dF_tree_1, nF_tree_1, fF_tree_100, iT_fault_100, iT_place_100, iT_kind_100, iT_at_100, iT_number_100, jT_name_100, iT_next_100, iM_variables_100, iM_rows_x31, iM_goals_x31, iM_differents_x31, iM_cases_100, fM_from_100, fM_to_100, fM_whole_100, fM_ways_x31, iM_plainRows_x31, fM_plainRow_x31, fM_kept_x31, fM_goalOver_x31, fM_goalUnder_x31, fM_goalMax_x31, fM_different_x31), rfl, ⟨b_iJ_used_100, b_iJ_depth_100, b_iJ_binders_100, b_iJ_firstSet_100, b_iJ_secondSet_100, b_iL_names_100, b_fL_kind_100, b_fL_two_100, b_fL_base_100, b_iL_params_x31, (by (try dsimp only); exact (by first | exact b_nL_params_2 | with_reducible assumption | exact ⟨by omega, by omega⟩ | assumption)), (by (try dsimp only); exact (by first | exact b_nF_tree_1 | with_reducible assumption | exact ⟨by omega, by omega⟩ | assumption)), b_iT_at_100, b_iT_number_100, b_iT_next_100, b_iM_variables_100, b_iM_rows_x31, b_iM_goals_x31, b_iM_differents_x31, b_iM_cases_100, b_fM_ways_x31, b_iM_plainRows_x31, b_fM_plainRow_x31, (by (try dsimp only); exact (by first | with_reducible assumption | omega | (rw [iI_t (by omega) (by omega)]; omega) | assumption)), (by (try dsimp only); exact (by first | with_reducible assumption | omega | (rw [iI_t (by omega) (by omega)]; omega) | assumption)), (by (try dsimp only); exact (by first | with_reducible assumption | omega | (rw [iI_t (by omega) (by omega)]; omega) | assumption)), (by (try dsimp only); exact (by first | with_reducible assumption | omega | assumption)), (show 0 ≤ (0 : Int32).toInt ∧ (0 : Int32).toInt ≤ 1 from by decide), (by (try dsimp only); omega), (by (try dsimp only); omega), (by (try dsimp only); first | (intro _; assumption) | (intro h9; exact absurd (by decide) h9) | (intro _; omega))⟩, by rw [ht]; exact hP, hD, by rw [ht]; (try dsimp only); omega, by rw [ht]; (try dsimp only); omega⟩, hS.F ht⟩) hS.2.2 dX4_readAll_227
                    revert u hw9 hB9
                    refine fz_p31 ?_
                    intro iJ_used_100 iJ_depth_100 jJ_ownName_100 gJ_binder_100 iJ_binders_100 iJ_firstSet_100 iJ_secondSet_100 iL_names_100 gL_key_100 fL_kind_100 fL_one_100 fL_two_100 fL_base_100 gL_over_100 gL_under_100 fL_bound_100 iL_nameAt_100 iL_steps_100 fF_tree_100 iT_fault_100 iT_place_100 iT_kind_100 iT_at_100 iT_number_100 jT_name_100 iT_next_100 iM_variables_100 iM_cases_100 fM_from_100 fM_to_100 fM_whole_100 hw9 hB9
                    try dsimp only at hw9 hB9
                    revert hw9
                    refine fz_a20 ?_
                    intro b_iJ_used_100 b_iJ_depth_100 b_iJ_binders_100 b_iJ_firstSet_100 b_iJ_secondSet_100 b_iL_names_100 b_fL_kind_100 b_fL_two_100 b_fL_base_100 b_iT_at_100 b_iT_number_100 b_iT_next_100 b_iM_variables_100 b_iM_cases_100 b_nm_100 f100_0 f100_1 f100_2 f100_3 f100_4
                    have hz8 := hB9.1.2.2
                    rw [ht] at hz8
                    have hSz := hB9.2
                    rw [ht] at hSz
                    have hP : va_P (dC, dI) vwCl (WJ hJ aJ kJ hT hM hL (.ref dF_tree_1) iJ_used_100 iJ_depth_100 jJ_ownName_100 gJ_binder_100 iJ_binders_100 iJ_firstSet_100 iJ_secondSet_100 ++ (WL hL aL kL hT hM (.ref dF_tree_1) iL_names_100 gL_key_100 fL_kind_100 fL_one_100 fL_two_100 fL_base_100 iL_params_x31 fL_paramOver_x31 dL_paramOver_2 nL_params_2 fL_paramUnder_x31 dL_paramUnder_2 nL_pu_2 gL_over_100 gL_under_100 fL_bound_100 iL_nameAt_100 iL_startAt_89 iL_steps_100 jL_scaleOver_x31 jL_scaleUnder_x31 ++ (WF hF aF kF dF_tree_1 nF_tree_1 fF_tree_100 ++ (WT hT aT kT fT_tape dT_tape nT_tape iT_length iT_fault_100 iT_place_100 iT_kind_100 iT_at_100 iT_number_100 jT_name_100 iT_next_100 ++ (WM hM aM kM iM_stands iM_variables_100 iM_rows_x31 iM_goals_x31 iM_differents_x31 iM_cases_100 fM_from_100 fM_to_100 fM_whole_100 fM_ways_x31 iM_plainRows_x31 fM_plainRow_x31 fM_kept_x31 fM_goalOver_x31 fM_goalUnder_x31 fM_goalMax_x31 fM_different_x31))))) H := fz_P ht hB9.1.1
                    have hD := fz_sd hP (hB9.1.2.1.weaken (fun _ q _ h => hFc q.1 h)) rfl
                    have hz9 : H.size ≤ s.heap.size + (nF_tree_1 / 8 + 2 * nL_params_2 - (nF_tree / 8 + 2 * nL_params)) := by rw [hz8]; exact hz0
                    have hn9 : nS s.heap.size H ≤ (2 * nF_tree_1 + 4 * nL_params_2 - (2 * nF_tree + 4 * nL_params)) := Nat.le_trans (Nat.le_of_eq (hSz.n hS0)) (Nat.le_trans (Nat.add_le_add hn0 (nS_0 (k := 0) (Nat.le_of_eq hz8))) (Nat.le_of_eq (Nat.add_zero _)))
                    refine W.tight (cells2 := (nF_tree_1 / 8 + 2 * nL_params_2 - (nF_tree / 8 + 2 * nL_params))) (slots2 := (2 * nF_tree_1 + 4 * nL_params_2 - (2 * nF_tree + 4 * nL_params))) hz9 hn9 ?_
                    clear hz9 hn9 hz0 hn0 hS0 hSz hz8
                    refine lv_goto (tgt := 217) hx hb dX4_readAll_186 (by decide) ?_
                    have hl : lv_has _ _ ([(1, .int l1_x31), (0, .ref (hJ 0))]) := lv_sub hl [0, 1] rfl
                    refine W.known (fun hza hna => ?_)
                    refine W.widen (k := 15000) (n := 160000) (by omega) (by omega) ?_
                    exact join16 _ _ _ _ ⟨iJ_used_100, iJ_depth_100, jJ_ownName_100, gJ_binder_100, iJ_binders_100, iJ_firstSet_100, iJ_secondSet_100, iL_names_100, gL_key_100, fL_kind_100, fL_one_100, fL_two_100, fL_base_100, iL_params_x31, fL_paramOver_x31, fL_paramUnder_x31, gL_over_100, gL_under_100, fL_bound_100, iL_nameAt_100, iL_steps_100, jL_scaleOver_x31, jL_scaleUnder_x31, fF_tree_100, iT_fault_100, iT_place_100, iT_kind_100, iT_at_100, iT_number_100, jT_name_100, iT_next_100, iM_variables_100, iM_rows_x31, iM_goals_x31, iM_differents_x31, iM_cases_100, fM_from_100, fM_to_100, fM_whole_100, fM_ways_x31, iM_plainRows_x31, fM_plainRow_x31, fM_kept_x31, fM_goalOver_x31, fM_goalUnder_x31, fM_goalMax_x31, fM_different_x31, (b_iJ_used_100), (b_iJ_depth_100), (b_iJ_binders_100), (b_iJ_firstSet_100), (b_iJ_secondSet_100), (b_iL_names_100), b_fL_kind_100, b_fL_two_100, b_fL_base_100, (b_iL_params_x31), (b_iT_at_100), (b_iT_number_100), (b_iT_next_100), (b_iM_variables_100), (b_iM_rows_x31), (b_iM_goals_x31), (b_iM_differents_x31), (b_iM_cases_100), b_fM_ways_x31, (b_iM_plainRows_x31), b_fM_plainRow_x31, (by first | with_reducible assumption | omega | (rw [iI_t (by omega) (by omega)]; omega) | assumption), (by first | with_reducible assumption | omega | (rw [iI_t (by omega) (by omega)]; omega) | assumption), (by first | with_reducible assumption | omega | assumption), (show iT_at_100.toInt ≤ iT_next_100.toInt from by first | assumption | omega), (show iT_next_100.toInt ≤ iT_length.toInt from by first | assumption | omega), (show (iT_kind_100.toInt = 44 ∨ iT_kind_100.toInt = 61) → iT_at_100.toInt < iT_next_100.toInt from by first | assumption | omega), (show iL_params_x31.toInt ≤ iT_at_100.toInt from by omega), (show iM_cases_100.toInt ≤ 64 from by omega), ⟨by omega, by omega⟩, rfl, hP, hD, hS, hl⟩
                  · skip
                    by_cases s_90_259 : iT_kind_x31 = 259
                    · have ts_90_259 : iT_kind_x31.toInt = 259 := toI_eq s_90_259 rfl (by decide)
                      refine lv_tableIn (off := 120) (tgt := 210) hx hb dX4_readAll_90 (by rw [s_90_259]; decide) (by rw [s_90_259]; decide) (by rw [s_90_259]; decide) (by decide) ?_
                      exact k9 _ _ _ _ ⟨rfl, rfl, rfl, rfl⟩
                    · skip
                      by_cases s_90_260 : iT_kind_x31 = 260
                      · have ts_90_260 : iT_kind_x31.toInt = 260 := toI_eq s_90_260 rfl (by decide)
                        refine lv_tableIn (off := 120) (tgt := 210) hx hb dX4_readAll_90 (by rw [s_90_260]; decide) (by rw [s_90_260]; decide) (by rw [s_90_260]; decide) (by decide) ?_
                        exact k9 _ _ _ _ ⟨rfl, rfl, rfl, rfl⟩
                      · skip
                        by_cases s_90_261 : iT_kind_x31 = 261
                        · have ts_90_261 : iT_kind_x31.toInt = 261 := toI_eq s_90_261 rfl (by decide)
                          refine lv_tableIn (off := 120) (tgt := 210) hx hb dX4_readAll_90 (by rw [s_90_261]; decide) (by rw [s_90_261]; decide) (by rw [s_90_261]; decide) (by decide) ?_
                          exact k9 _ _ _ _ ⟨rfl, rfl, rfl, rfl⟩
                        · skip
                          by_cases s_90_262 : iT_kind_x31 = 262
                          · have ts_90_262 : iT_kind_x31.toInt = 262 := toI_eq s_90_262 rfl (by decide)
                            refine lv_tableIn (off := 99) (tgt := 189) hx hb dX4_readAll_90 (by rw [s_90_262]; decide) (by rw [s_90_262]; decide) (by rw [s_90_262]; decide) (by decide) ?_
                            refine lv_aload_n hx hb dX4_readAll_189 rfl (lv_at hl 1 rfl) ?_
                            refine W.known (fun hz0 hn0 => ?_)
                            have hS0 := hS.1
                            have hFc := allFree hD hS hA
                            refine vx_callv (vx_runV (As := []) (rest := []) ⟨hx, hb, hml, hown, hts⟩ (vx_Met.sV (m_X4_readRow l hst dC dI hJ aJ kJ hT hM hL 7 0 0 gJ_binder_x31 0 iJ_firstSet_x31 iJ_secondSet_x31 aL kL iL_names_x31 gL_key_x31 fL_kind_x31 fL_one_x31 fL_two_x31 fL_base_x31 iL_params_x31 fL_paramOver_x31 dL_paramOver_2 nL_params_2 fL_paramUnder_x31 dL_paramUnder_2 nL_pu_2 gL_over_x31 gL_under_x31 fL_bound_x31 iL_nameAt_89 iL_startAt_89 iL_steps_89 jL_scaleOver_x31 jL_scaleUnder_x31 hF aF kF dF_tree_1 nF_tree_1 fF_tree_x31 aT kT fT_tape dT_tape nT_tape iT_length iT_fault_x31 iT_place_x31 iT_kind_x31 iT_at_x31 iT_number_x31 jT_name_x31 iT_next_x31 aM kM iM_stands iM_variables_x31 iM_rows_x31 iM_goals_x31 iM_differents_x31 iM_cases_x31 fM_from_x31 fM_to_x31 fM_whole_x31 fM_ways_x31 iM_plainRows_x31 fM_plainRow_x31 fM_kept_x31 fM_goalOver_x31 fM_goalUnder_x31 fM_goalMax_x31 fM_different_x31 (show 0 ≤ (7 : Int32).toInt ∧ (7 : Int32).toInt ≤ 72200 from by decide) (show 0 ≤ (0 : Int32).toInt ∧ (0 : Int32).toInt ≤ 25 from by decide) (show 0 ≤ (0 : Int32).toInt ∧ (0 : Int32).toInt ≤ 64 from by decide) (b_iJ_firstSet_x31) (b_iJ_secondSet_x31) (b_iL_names_x31) b_fL_kind_x31 b_fL_two_x31 b_fL_base_x31 (b_iL_params_x31) (by first | exact b_nL_params_2 | with_reducible assumption | exact ⟨by omega, by omega⟩ | assumption) (by first | with_reducible assumption | omega | (rw [iI_t (by omega) (by omega)]; omega) | assumption) (by first | with_reducible assumption | omega | (rw [iI_t (by omega) (by omega)]; omega) | assumption) (by first | with_reducible assumption | omega | (rw [iI_t (by omega) (by omega)]; omega) | assumption) (by first | exact b_nF_tree_1 | with_reducible assumption | exact ⟨by omega, by omega⟩ | assumption) b_fT_tape (by first | exact b_nT_tape | with_reducible assumption | exact ⟨by omega, by omega⟩ | assumption) (b_iT_length) (b_iT_at_x31) (b_iT_number_x31) (b_iT_next_x31) (by first | with_reducible assumption | omega | assumption) (b_iM_stands) (b_iM_variables_x31) (b_iM_rows_x31) (b_iM_goals_x31) (b_iM_differents_x31) (b_iM_cases_x31) b_fM_ways_x31 (b_iM_plainRows_x31) b_fM_plainRow_x31 (by first | with_reducible assumption | omega | assumption) (by decide) (by have h7 : (7 : Int32).toInt = 7 := (by decide); omega) (by decide) (by first | with_reducible assumption | omega | (rw [iI_t (by omega) (by omega)]; omega) | decide | assumption) (by first | with_reducible assumption | omega | (rw [iI_t (by omega) (by omega)]; omega) | decide | assumption) (by first | with_reducible assumption | omega | (rw [iI_t (by omega) (by omega)]; omega) | decide | assumption) (by decide) (by first | with_reducible assumption | omega | (rw [iI_t (by omega) (by omega)]; omega) | decide | assumption) (by first | with_reducible assumption | omega | (rw [iI_t (by omega) (by omega)]; omega) | decide | assumption) (by first | with_reducible assumption | omega | (rw [iI_t (by omega) (by omega)]; omega) | decide | assumption) H.size) H) (cwV 0 hts gwsMX4_readAll_7 rfl rfl rfl (by decide +kernel) ⟨by first | decide +kernel | (dsimp only [headSpec] <;> omega), by first | decide +kernel | (dsimp only [headSpec] <;> omega)⟩) ⟨fun a U g mk q => by obtain ⟨q0, qh, q1, qP, qK, qD, qE⟩ := q; exact ⟨q0, qh, q1, qP, va_K.moved (u := U) (U := U.calling g mk a) (Vm.Alike.refl U.vm) qK, qD, qE.call⟩, va_recv hK hP (ci := 4) (q0 := 0) rfl rfl, fun U hU9 hW => ⟨rfl, hU9, by rw [hU9], by rw [hU9]; exact hP, va_K.moved hW.alike hK, hD.weaken (fun _ _ _ _ => trivial), by rw [hU9]; exact (((hE : CE A s s.heap).kept hS.2.1).narrow (fun q h => hFc q h)).warm hW⟩⟩ rfl rfl hl.1 rfl (lv_room (Nat.le_of_ble_eq_true rfl)) dX4_readAll_190 ⟨by first | decide +kernel | (dsimp only [headSpec] <;> omega), by first | decide +kernel | (dsimp only [headSpec] <;> omega)⟩) hS (fun q _ h => hFc q h) hFc (fun q _ h => hFc q h) (fun E ce q9 u t9_ H locs ht hvm hw9 hB9 hz1 hk1 hS hc1 hc2 hc3 => ?_) (fun u t9_ H locs ht hvm hw9 hB9 hz1 hk1 hS => ?_)
                            · revert u hw9 hB9
                              refine fz_p32 ?_
                              intro iJ_used_101 iJ_depth_101 jJ_ownName_101 gJ_binder_101 iJ_binders_101 iL_names_101 gL_key_101 fL_kind_101 fL_one_101 fL_two_101 fL_base_101 gL_over_101 gL_under_101 fL_bound_101 iL_nameAt_101 iL_steps_101 jL_scaleOver_101 jL_scaleUnder_101 fF_tree_101 iT_fault_101 iT_place_101 iT_kind_101 iT_at_101 iT_number_101 jT_name_101 iT_next_101 iM_rows_101 iM_cases_101 fM_ways_101 iM_plainRows_101 fM_plainRow_101 fM_kept_101 hw9 hB9
                              try dsimp only at hw9 hB9
                              revert hB9
                              refine fz_a2 ?_
                              intro hEx hB9
                              revert hw9
                              refine fz_a17 ?_
                              intro b_iJ_used_101 b_iJ_depth_101 b_iJ_binders_101 b_iL_names_101 b_fL_kind_101 b_fL_two_101 b_fL_base_101 b_iT_at_101 b_iT_number_101 b_iT_next_101 b_iM_rows_101 b_iM_cases_101 b_fM_ways_101 b_iM_plainRows_101 b_fM_plainRow_101 b_nm_101 b_pr_101
                              have hP : va_P (dC, dI) vwCl (WJ hJ aJ kJ hT hM hL (.ref dF_tree_1) iJ_used_101 iJ_depth_101 jJ_ownName_101 gJ_binder_101 iJ_binders_101 iJ_firstSet_x31 iJ_secondSet_x31 ++ (WL hL aL kL hT hM (.ref dF_tree_1) iL_names_101 gL_key_101 fL_kind_101 fL_one_101 fL_two_101 fL_base_101 iL_params_x31 fL_paramOver_x31 dL_paramOver_2 nL_params_2 fL_paramUnder_x31 dL_paramUnder_2 nL_pu_2 gL_over_101 gL_under_101 fL_bound_101 iL_nameAt_101 iL_startAt_89 iL_steps_101 jL_scaleOver_101 jL_scaleUnder_101 ++ (WF hF aF kF dF_tree_1 nF_tree_1 fF_tree_101 ++ (WT hT aT kT fT_tape dT_tape nT_tape iT_length iT_fault_101 iT_place_101 iT_kind_101 iT_at_101 iT_number_101 jT_name_101 iT_next_101 ++ (WM hM aM kM iM_stands iM_variables_x31 iM_rows_101 iM_goals_x31 iM_differents_x31 iM_cases_101 fM_from_x31 fM_to_x31 fM_whole_x31 fM_ways_101 iM_plainRows_101 fM_plainRow_101 fM_kept_101 fM_goalOver_x31 fM_goalUnder_x31 fM_goalMax_x31 fM_different_x31))))) H := fz_P ht hB9.1
                              have hD := fz_sd hP (hB9.2.weaken (fun _ q _ h => hFc q.1 h)) rfl
                              subst hEx
                              refine vx_catch (own := RX4) (name := "java/lang/IllegalArgumentException") hown [] ⟨29, 224, 225, 95⟩ [] (by rw [htb]; rfl) (fun z hz => absurd hz List.not_mem_nil) (by decide) (by decide) (hts _ hm_m_X4_readAll_3) (va_Nw.use rfl (hE.2.2.1.1 (.castable "java/lang/IllegalArgumentException" "java/lang/IllegalArgumentException") (by decide +kernel))) hc1 hc2 hc3 ?_
                              refine lv_astore_n hx hb dX4_readAll_225 rfl hl (by decide) rfl (fun ls (hl : lv_has ls _ ([(1, .ref q9), (0, .ref (hJ 0))])) => ?_)
                              refine lv_iconst (v := 0) hx hb dX4_readAll_226 (by decide) ?_
                              refine W.known (fun hz9 hn9 => ?_)
                              refine W.widen (k := 24027) (n := 448800) (by omega) (by omega) ?_
                              exact W.zret (v := 0) hx hb hr rfl (fun t9_ ht hW => ⟨⟨(0 : Int32), (iJ_used_101, iJ_depth_101, jJ_ownName_101, gJ_binder_101, iJ_binders_101, iJ_firstSet_x31, iJ_secondSet_x31, (.ref dF_tree_1), iL_names_101, gL_key_101, fL_kind_101, fL_one_101, fL_two_101, fL_base_101, iL_params_x31, fL_paramOver_x31, dL_paramOver_2, nL_params_2, fL_paramUnder_x31, dL_paramUnder_2, nL_pu_2, gL_over_101, gL_under_101, fL_bound_101, iL_nameAt_101, iL_startAt_89, iL_steps_101, jL_scaleOver_101, jL_scaleUnder_101, dF_tree_1, nF_tree_1, fF_tree_101, iT_fault_101, iT_place_101, iT_kind_101, iT_at_101, iT_number_101, jT_name_101, iT_next_101, iM_variables_x31, iM_rows_101, iM_goals_x31, iM_differents_x31, iM_cases_101, fM_from_x31, fM_to_x31, fM_whole_x31, fM_ways_101, iM_plainRows_101, fM_plainRow_101, fM_kept_101, fM_goalOver_x31, fM_goalUnder_x31, fM_goalMax_x31, fM_different_x31), rfl, ⟨b_iJ_used_101, b_iJ_depth_101, b_iJ_binders_101, b_iJ_firstSet_x31, b_iJ_secondSet_x31, b_iL_names_101, b_fL_kind_101, b_fL_two_101, b_fL_base_101, b_iL_params_x31, (by (try dsimp only); exact (by first | exact b_nL_params_2 | with_reducible assumption | exact ⟨by omega, by omega⟩ | assumption)), (by (try dsimp only); exact (by first | exact b_nF_tree_1 | with_reducible assumption | exact ⟨by omega, by omega⟩ | assumption)), b_iT_at_101, b_iT_number_101, b_iT_next_101, b_iM_variables_x31, b_iM_rows_101, b_iM_goals_x31, b_iM_differents_x31, b_iM_cases_101, b_fM_ways_101, b_iM_plainRows_101, b_fM_plainRow_101, (by (try dsimp only); exact (by first | with_reducible assumption | omega | (rw [iI_t (by omega) (by omega)]; omega) | assumption)), (by (try dsimp only); exact (by first | with_reducible assumption | omega | (rw [iI_t (by omega) (by omega)]; omega) | assumption)), (by (try dsimp only); exact (by first | with_reducible assumption | omega | (rw [iI_t (by omega) (by omega)]; omega) | assumption)), (by (try dsimp only); exact (by first | with_reducible assumption | omega | assumption)), (show 0 ≤ (0 : Int32).toInt ∧ (0 : Int32).toInt ≤ 1 from by decide), (by (try dsimp only); omega), (by (try dsimp only); omega), (by (try dsimp only); first | (intro _; assumption) | (intro h9; exact absurd (by decide) h9) | (intro _; omega))⟩, by rw [ht]; exact hP, hD, by rw [ht]; (try dsimp only); omega, by rw [ht]; (try dsimp only); omega⟩, hS.F ht⟩) hS.2.2 dX4_readAll_227
                            revert u hw9 hB9
                            refine fz_p32 ?_
                            intro iJ_used_101 iJ_depth_101 jJ_ownName_101 gJ_binder_101 iJ_binders_101 iL_names_101 gL_key_101 fL_kind_101 fL_one_101 fL_two_101 fL_base_101 gL_over_101 gL_under_101 fL_bound_101 iL_nameAt_101 iL_steps_101 jL_scaleOver_101 jL_scaleUnder_101 fF_tree_101 iT_fault_101 iT_place_101 iT_kind_101 iT_at_101 iT_number_101 jT_name_101 iT_next_101 iM_rows_101 iM_cases_101 fM_ways_101 iM_plainRows_101 fM_plainRow_101 fM_kept_101 hw9 hB9
                            try dsimp only at hw9 hB9
                            revert hw9
                            refine fz_a22 ?_
                            intro b_iJ_used_101 b_iJ_depth_101 b_iJ_binders_101 b_iL_names_101 b_fL_kind_101 b_fL_two_101 b_fL_base_101 b_iT_at_101 b_iT_number_101 b_iT_next_101 b_iM_rows_101 b_iM_cases_101 b_fM_ways_101 b_iM_plainRows_101 b_fM_plainRow_101 b_nm_101 b_pr_101 f101_0 f101_1 f101_2 f101_3 f101_4
                            have hz8 := hB9.1.2.2
                            rw [ht] at hz8
                            have hSz := hB9.2
                            rw [ht] at hSz
                            have hP : va_P (dC, dI) vwCl (WJ hJ aJ kJ hT hM hL (.ref dF_tree_1) iJ_used_101 iJ_depth_101 jJ_ownName_101 gJ_binder_101 iJ_binders_101 iJ_firstSet_x31 iJ_secondSet_x31 ++ (WL hL aL kL hT hM (.ref dF_tree_1) iL_names_101 gL_key_101 fL_kind_101 fL_one_101 fL_two_101 fL_base_101 iL_params_x31 fL_paramOver_x31 dL_paramOver_2 nL_params_2 fL_paramUnder_x31 dL_paramUnder_2 nL_pu_2 gL_over_101 gL_under_101 fL_bound_101 iL_nameAt_101 iL_startAt_89 iL_steps_101 jL_scaleOver_101 jL_scaleUnder_101 ++ (WF hF aF kF dF_tree_1 nF_tree_1 fF_tree_101 ++ (WT hT aT kT fT_tape dT_tape nT_tape iT_length iT_fault_101 iT_place_101 iT_kind_101 iT_at_101 iT_number_101 jT_name_101 iT_next_101 ++ (WM hM aM kM iM_stands iM_variables_x31 iM_rows_101 iM_goals_x31 iM_differents_x31 iM_cases_101 fM_from_x31 fM_to_x31 fM_whole_x31 fM_ways_101 iM_plainRows_101 fM_plainRow_101 fM_kept_101 fM_goalOver_x31 fM_goalUnder_x31 fM_goalMax_x31 fM_different_x31))))) H := fz_P ht hB9.1.1
                            have hD := fz_sd hP (hB9.1.2.1.weaken (fun _ q _ h => hFc q.1 h)) rfl
                            have hz9 : H.size ≤ s.heap.size + (nF_tree_1 / 8 + 2 * nL_params_2 - (nF_tree / 8 + 2 * nL_params)) := by rw [hz8]; exact hz0
                            have hn9 : nS s.heap.size H ≤ (2 * nF_tree_1 + 4 * nL_params_2 - (2 * nF_tree + 4 * nL_params)) := Nat.le_trans (Nat.le_of_eq (hSz.n hS0)) (Nat.le_trans (Nat.add_le_add hn0 (nS_0 (k := 0) (Nat.le_of_eq hz8))) (Nat.le_of_eq (Nat.add_zero _)))
                            refine W.tight (cells2 := (nF_tree_1 / 8 + 2 * nL_params_2 - (nF_tree / 8 + 2 * nL_params))) (slots2 := (2 * nF_tree_1 + 4 * nL_params_2 - (2 * nF_tree + 4 * nL_params))) hz9 hn9 ?_
                            clear hz9 hn9 hz0 hn0 hS0 hSz hz8
                            refine lv_goto (tgt := 217) hx hb dX4_readAll_193 (by decide) ?_
                            have hl : lv_has _ _ ([(1, .int l1_x31), (0, .ref (hJ 0))]) := lv_sub hl [0, 1] rfl
                            refine W.known (fun hza hna => ?_)
                            refine W.widen (k := 15000) (n := 160000) (by omega) (by omega) ?_
                            exact join16 _ _ _ _ ⟨iJ_used_101, iJ_depth_101, jJ_ownName_101, gJ_binder_101, iJ_binders_101, iJ_firstSet_x31, iJ_secondSet_x31, iL_names_101, gL_key_101, fL_kind_101, fL_one_101, fL_two_101, fL_base_101, iL_params_x31, fL_paramOver_x31, fL_paramUnder_x31, gL_over_101, gL_under_101, fL_bound_101, iL_nameAt_101, iL_steps_101, jL_scaleOver_101, jL_scaleUnder_101, fF_tree_101, iT_fault_101, iT_place_101, iT_kind_101, iT_at_101, iT_number_101, jT_name_101, iT_next_101, iM_variables_x31, iM_rows_101, iM_goals_x31, iM_differents_x31, iM_cases_101, fM_from_x31, fM_to_x31, fM_whole_x31, fM_ways_101, iM_plainRows_101, fM_plainRow_101, fM_kept_101, fM_goalOver_x31, fM_goalUnder_x31, fM_goalMax_x31, fM_different_x31, (b_iJ_used_101), (b_iJ_depth_101), (b_iJ_binders_101), (b_iJ_firstSet_x31), (b_iJ_secondSet_x31), (b_iL_names_101), b_fL_kind_101, b_fL_two_101, b_fL_base_101, (b_iL_params_x31), (b_iT_at_101), (b_iT_number_101), (b_iT_next_101), (b_iM_variables_x31), (b_iM_rows_101), (b_iM_goals_x31), (b_iM_differents_x31), (b_iM_cases_101), b_fM_ways_101, (b_iM_plainRows_101), b_fM_plainRow_101, (by first | with_reducible assumption | omega | (rw [iI_t (by omega) (by omega)]; omega) | assumption), (by first | with_reducible assumption | omega | (rw [iI_t (by omega) (by omega)]; omega) | assumption), (by first | with_reducible assumption | omega | assumption), (show iT_at_101.toInt ≤ iT_next_101.toInt from by first | assumption | omega), (show iT_next_101.toInt ≤ iT_length.toInt from by first | assumption | omega), (show (iT_kind_101.toInt = 44 ∨ iT_kind_101.toInt = 61) → iT_at_101.toInt < iT_next_101.toInt from by first | assumption | omega), (show iL_params_x31.toInt ≤ iT_at_101.toInt from by omega), (show iM_cases_101.toInt ≤ 64 from by omega), ⟨by omega, by omega⟩, rfl, hP, hD, hS, hl⟩
                          · skip
                            by_cases s_90_263 : iT_kind_x31 = 263
                            · have ts_90_263 : iT_kind_x31.toInt = 263 := toI_eq s_90_263 rfl (by decide)
                              refine lv_tableIn (off := 120) (tgt := 210) hx hb dX4_readAll_90 (by rw [s_90_263]; decide) (by rw [s_90_263]; decide) (by rw [s_90_263]; decide) (by decide) ?_
                              exact k9 _ _ _ _ ⟨rfl, rfl, rfl, rfl⟩
                            · skip
                              by_cases s_90_264 : iT_kind_x31 = 264
                              · have ts_90_264 : iT_kind_x31.toInt = 264 := toI_eq s_90_264 rfl (by decide)
                                refine lv_tableIn (off := 120) (tgt := 210) hx hb dX4_readAll_90 (by rw [s_90_264]; decide) (by rw [s_90_264]; decide) (by rw [s_90_264]; decide) (by decide) ?_
                                exact k9 _ _ _ _ ⟨rfl, rfl, rfl, rfl⟩
                              · skip
                                by_cases s_90_265 : iT_kind_x31 = 265
                                · have ts_90_265 : iT_kind_x31.toInt = 265 := toI_eq s_90_265 rfl (by decide)
                                  refine lv_tableIn (off := 120) (tgt := 210) hx hb dX4_readAll_90 (by rw [s_90_265]; decide) (by rw [s_90_265]; decide) (by rw [s_90_265]; decide) (by decide) ?_
                                  exact k9 _ _ _ _ ⟨rfl, rfl, rfl, rfl⟩
                                · skip
                                  by_cases s_90_266 : iT_kind_x31 = 266
                                  · have ts_90_266 : iT_kind_x31.toInt = 266 := toI_eq s_90_266 rfl (by decide)
                                    refine lv_tableIn (off := 120) (tgt := 210) hx hb dX4_readAll_90 (by rw [s_90_266]; decide) (by rw [s_90_266]; decide) (by rw [s_90_266]; decide) (by decide) ?_
                                    exact k9 _ _ _ _ ⟨rfl, rfl, rfl, rfl⟩
                                  · skip
                                    by_cases s_90_267 : iT_kind_x31 = 267
                                    · have ts_90_267 : iT_kind_x31.toInt = 267 := toI_eq s_90_267 rfl (by decide)
                                      refine lv_tableIn (off := 120) (tgt := 210) hx hb dX4_readAll_90 (by rw [s_90_267]; decide) (by rw [s_90_267]; decide) (by rw [s_90_267]; decide) (by decide) ?_
                                      exact k9 _ _ _ _ ⟨rfl, rfl, rfl, rfl⟩
                                    · skip
                                      by_cases s_90_268 : iT_kind_x31 = 268
                                      · have ts_90_268 : iT_kind_x31.toInt = 268 := toI_eq s_90_268 rfl (by decide)
                                        refine lv_tableIn (off := 120) (tgt := 210) hx hb dX4_readAll_90 (by rw [s_90_268]; decide) (by rw [s_90_268]; decide) (by rw [s_90_268]; decide) (by decide) ?_
                                        exact k9 _ _ _ _ ⟨rfl, rfl, rfl, rfl⟩
                                      · skip
                                        by_cases s_90_269 : iT_kind_x31 = 269
                                        · have ts_90_269 : iT_kind_x31.toInt = 269 := toI_eq s_90_269 rfl (by decide)
                                          refine lv_tableIn (off := 106) (tgt := 196) hx hb dX4_readAll_90 (by rw [s_90_269]; decide) (by rw [s_90_269]; decide) (by rw [s_90_269]; decide) (by decide) ?_
                                          refine lv_aload_n hx hb dX4_readAll_196 rfl (lv_at hl 1 rfl) ?_
                                          refine W.known (fun hz0 hn0 => ?_)
                                          have hS0 := hS.1
                                          have p9 := cj_5_0_1_3_4 (WJ hJ aJ kJ hT hM hL (.ref dF_tree_1) 7 0 0 gJ_binder_x31 0 iJ_firstSet_x31 iJ_secondSet_x31) (WL hL aL kL hT hM (.ref dF_tree_1) iL_names_x31 gL_key_x31 fL_kind_x31 fL_one_x31 fL_two_x31 fL_base_x31 iL_params_x31 fL_paramOver_x31 dL_paramOver_2 nL_params_2 fL_paramUnder_x31 dL_paramUnder_2 nL_pu_2 gL_over_x31 gL_under_x31 fL_bound_x31 iL_nameAt_89 iL_startAt_89 iL_steps_89 jL_scaleOver_x31 jL_scaleUnder_x31) (WF hF aF kF dF_tree_1 nF_tree_1 fF_tree_x31) (WT hT aT kT fT_tape dT_tape nT_tape iT_length iT_fault_x31 iT_place_x31 iT_kind_x31 iT_at_x31 iT_number_x31 jT_name_x31 iT_next_x31) (WM hM aM kM iM_stands iM_variables_x31 iM_rows_x31 iM_goals_x31 iM_differents_x31 iM_cases_x31 fM_from_x31 fM_to_x31 fM_whole_x31 fM_ways_x31 iM_plainRows_x31 fM_plainRow_x31 fM_kept_x31 fM_goalOver_x31 fM_goalUnder_x31 fM_goalMax_x31 fM_different_x31)
                                          have hPc := hP.mem (fun q h => p9.mem_iff.mpr (List.mem_append_left _ h))
                                          have hDc := (hD.perm p9).left
                                          have hKc : va_K (dC, dI) vwCl (tJ kJ ++ (tL kL ++ (tT kT ++ (tM kM)))) _ := hK.sub [0, 1, 2, 3, 4, 5, 6, 7, 8, 9, 10, 12, 13, 14, 15, 16, 17, 18, 19, 20, 21, 22] rfl
                                          have hFc := freeG p9 hD hS hA
                                          refine vx_callv (vx_runV (As := []) (rest := []) ⟨hx, hb, hml, hown, hts⟩ (vx_Met.sV (m_X4_readDifferent l hst dC dI hJ aJ kJ hT hM hL (.ref dF_tree_1) 7 0 0 gJ_binder_x31 0 iJ_firstSet_x31 iJ_secondSet_x31 aL kL (.ref dF_tree_1) iL_names_x31 gL_key_x31 fL_kind_x31 fL_one_x31 fL_two_x31 fL_base_x31 iL_params_x31 fL_paramOver_x31 dL_paramOver_2 nL_params_2 fL_paramUnder_x31 dL_paramUnder_2 nL_pu_2 gL_over_x31 gL_under_x31 fL_bound_x31 iL_nameAt_89 iL_startAt_89 iL_steps_89 jL_scaleOver_x31 jL_scaleUnder_x31 aT kT fT_tape dT_tape nT_tape iT_length iT_fault_x31 iT_place_x31 iT_kind_x31 iT_at_x31 iT_number_x31 jT_name_x31 iT_next_x31 aM kM iM_stands iM_variables_x31 iM_rows_x31 iM_goals_x31 iM_differents_x31 iM_cases_x31 fM_from_x31 fM_to_x31 fM_whole_x31 fM_ways_x31 iM_plainRows_x31 fM_plainRow_x31 fM_kept_x31 fM_goalOver_x31 fM_goalUnder_x31 fM_goalMax_x31 fM_different_x31 (show 0 ≤ (7 : Int32).toInt ∧ (7 : Int32).toInt ≤ 72200 from by decide) (show 0 ≤ (0 : Int32).toInt ∧ (0 : Int32).toInt ≤ 25 from by decide) (show 0 ≤ (0 : Int32).toInt ∧ (0 : Int32).toInt ≤ 64 from by decide) (b_iJ_firstSet_x31) (b_iJ_secondSet_x31) (b_iL_names_x31) b_fL_kind_x31 b_fL_two_x31 b_fL_base_x31 (b_iL_params_x31) (by first | exact b_nL_params_2 | with_reducible assumption | exact ⟨by omega, by omega⟩ | assumption) (by first | with_reducible assumption | omega | (rw [iI_t (by omega) (by omega)]; omega) | assumption) (by first | with_reducible assumption | omega | (rw [iI_t (by omega) (by omega)]; omega) | assumption) (by first | with_reducible assumption | omega | (rw [iI_t (by omega) (by omega)]; omega) | assumption) b_fT_tape (by first | exact b_nT_tape | with_reducible assumption | exact ⟨by omega, by omega⟩ | assumption) (b_iT_length) (b_iT_at_x31) (b_iT_number_x31) (b_iT_next_x31) (by first | with_reducible assumption | omega | assumption) (b_iM_stands) (b_iM_variables_x31) (b_iM_rows_x31) (b_iM_goals_x31) (b_iM_differents_x31) (b_iM_cases_x31) b_fM_ways_x31 (b_iM_plainRows_x31) b_fM_plainRow_x31 (by first | with_reducible assumption | omega | assumption) (by first | with_reducible assumption | omega | (rw [iI_t (by omega) (by omega)]; omega) | decide | assumption) (by first | with_reducible assumption | omega | (rw [iI_t (by omega) (by omega)]; omega) | decide | assumption) (by first | with_reducible assumption | omega | (rw [iI_t (by omega) (by omega)]; omega) | decide | assumption) H.size) H) (cwV 0 hts gwsMX4_readAll_8 rfl rfl rfl (by decide +kernel) ⟨by first | decide +kernel | (dsimp only [headSpec] <;> omega), by first | decide +kernel | (dsimp only [headSpec] <;> omega)⟩) ⟨fun a U g mk q => by obtain ⟨q0, qh, q1, qP, qK, qD, qE⟩ := q; exact ⟨q0, qh, q1, qP, va_K.moved (u := U) (U := U.calling g mk a) (Vm.Alike.refl U.vm) qK, qD, qE.call⟩, va_recv hK hP (ci := 4) (q0 := 0) rfl rfl, fun U hU9 hW => ⟨rfl, hU9, by rw [hU9], by rw [hU9]; exact hPc, va_K.moved hW.alike hKc, hDc.weaken (fun _ _ _ _ => trivial), by rw [hU9]; exact (((hE : CE A s s.heap).kept hS.2.1).narrow (fun q h => hFc q h)).warm hW⟩⟩ rfl rfl hl.1 rfl (lv_room (Nat.le_of_ble_eq_true rfl)) dX4_readAll_197 ⟨by first | decide +kernel | (dsimp only [headSpec] <;> omega), by first | decide +kernel | (dsimp only [headSpec] <;> omega)⟩) hS (fun q _ h => hFc q h) hFc (fun q _ h => hFc q h) (fun E ce q9 u t9_ H locs ht hvm hw9 hB9 hz1 hk1 hS hc1 hc2 hc3 => ?_) (fun u t9_ H locs ht hvm hw9 hB9 hz1 hk1 hS => ?_)
                                          · revert u hw9 hB9
                                            refine fz_p9 ?_
                                            intro iT_fault_102 iT_place_102 iT_kind_102 iT_at_102 iT_number_102 jT_name_102 iT_next_102 iM_differents_102 fM_different_102 hw9 hB9
                                            try dsimp only at hw9 hB9
                                            revert hB9
                                            refine fz_a2 ?_
                                            intro hEx hB9
                                            revert hw9
                                            refine fz_a4 ?_
                                            intro b_iT_at_102 b_iT_number_102 b_iT_next_102 b_iM_differents_102
                                            have p8 := cj_5_0_1_3_4 (WJ hJ aJ kJ hT hM hL (.ref dF_tree_1) 7 0 0 gJ_binder_x31 0 iJ_firstSet_x31 iJ_secondSet_x31) (WL hL aL kL hT hM (.ref dF_tree_1) iL_names_x31 gL_key_x31 fL_kind_x31 fL_one_x31 fL_two_x31 fL_base_x31 iL_params_x31 fL_paramOver_x31 dL_paramOver_2 nL_params_2 fL_paramUnder_x31 dL_paramUnder_2 nL_pu_2 gL_over_x31 gL_under_x31 fL_bound_x31 iL_nameAt_89 iL_startAt_89 iL_steps_89 jL_scaleOver_x31 jL_scaleUnder_x31) (WF hF aF kF dF_tree_1 nF_tree_1 fF_tree_x31) (WT hT aT kT fT_tape dT_tape nT_tape iT_length iT_fault_102 iT_place_102 iT_kind_102 iT_at_102 iT_number_102 jT_name_102 iT_next_102) (WM hM aM kM iM_stands iM_variables_x31 iM_rows_x31 iM_goals_x31 iM_differents_102 iM_cases_x31 fM_from_x31 fM_to_x31 fM_whole_x31 fM_ways_x31 iM_plainRows_x31 fM_plainRow_x31 fM_kept_x31 fM_goalOver_x31 fM_goalUnder_x31 fM_goalMax_x31 fM_different_102)
                                            obtain ⟨hP, hD⟩ := frameG p9 p8 hP hD hk1 hFc (fz_P ht hB9.1) hB9.2
                                            subst hEx
                                            refine vx_catch (own := RX4) (name := "java/lang/IllegalArgumentException") hown [] ⟨29, 224, 225, 95⟩ [] (by rw [htb]; rfl) (fun z hz => absurd hz List.not_mem_nil) (by decide) (by decide) (hts _ hm_m_X4_readAll_3) (va_Nw.use rfl (hE.2.2.1.1 (.castable "java/lang/IllegalArgumentException" "java/lang/IllegalArgumentException") (by decide +kernel))) hc1 hc2 hc3 ?_
                                            refine lv_astore_n hx hb dX4_readAll_225 rfl hl (by decide) rfl (fun ls (hl : lv_has ls _ ([(1, .ref q9), (0, .ref (hJ 0))])) => ?_)
                                            refine lv_iconst (v := 0) hx hb dX4_readAll_226 (by decide) ?_
                                            refine W.known (fun hz9 hn9 => ?_)
                                            refine W.widen (k := 24027) (n := 448800) (by omega) (by omega) ?_
                                            exact W.zret (v := 0) hx hb hr rfl (fun t9_ ht hW => ⟨⟨(0 : Int32), (7, 0, 0, gJ_binder_x31, 0, iJ_firstSet_x31, iJ_secondSet_x31, (.ref dF_tree_1), iL_names_x31, gL_key_x31, fL_kind_x31, fL_one_x31, fL_two_x31, fL_base_x31, iL_params_x31, fL_paramOver_x31, dL_paramOver_2, nL_params_2, fL_paramUnder_x31, dL_paramUnder_2, nL_pu_2, gL_over_x31, gL_under_x31, fL_bound_x31, iL_nameAt_89, iL_startAt_89, iL_steps_89, jL_scaleOver_x31, jL_scaleUnder_x31, dF_tree_1, nF_tree_1, fF_tree_x31, iT_fault_102, iT_place_102, iT_kind_102, iT_at_102, iT_number_102, jT_name_102, iT_next_102, iM_variables_x31, iM_rows_x31, iM_goals_x31, iM_differents_102, iM_cases_x31, fM_from_x31, fM_to_x31, fM_whole_x31, fM_ways_x31, iM_plainRows_x31, fM_plainRow_x31, fM_kept_x31, fM_goalOver_x31, fM_goalUnder_x31, fM_goalMax_x31, fM_different_102), rfl, ⟨(by (try dsimp only); exact (show 0 ≤ (7 : Int32).toInt ∧ (7 : Int32).toInt ≤ 72200 from by decide)), (by (try dsimp only); exact (show 0 ≤ (0 : Int32).toInt ∧ (0 : Int32).toInt ≤ 25 from by decide)), (by (try dsimp only); exact (show 0 ≤ (0 : Int32).toInt ∧ (0 : Int32).toInt ≤ 64 from by decide)), b_iJ_firstSet_x31, b_iJ_secondSet_x31, b_iL_names_x31, b_fL_kind_x31, b_fL_two_x31, b_fL_base_x31, b_iL_params_x31, (by (try dsimp only); exact (by first | exact b_nL_params_2 | with_reducible assumption | exact ⟨by omega, by omega⟩ | assumption)), (by (try dsimp only); exact (by first | exact b_nF_tree_1 | with_reducible assumption | exact ⟨by omega, by omega⟩ | assumption)), b_iT_at_102, b_iT_number_102, b_iT_next_102, b_iM_variables_x31, b_iM_rows_x31, b_iM_goals_x31, b_iM_differents_102, b_iM_cases_x31, b_fM_ways_x31, b_iM_plainRows_x31, b_fM_plainRow_x31, (by (try dsimp only); exact (by first | with_reducible assumption | omega | (rw [iI_t (by omega) (by omega)]; omega) | assumption)), (by (try dsimp only); exact (by first | with_reducible assumption | omega | (rw [iI_t (by omega) (by omega)]; omega) | assumption)), (by (try dsimp only); exact (by first | with_reducible assumption | omega | (rw [iI_t (by omega) (by omega)]; omega) | assumption)), (by (try dsimp only); exact (by first | with_reducible assumption | omega | assumption)), (show 0 ≤ (0 : Int32).toInt ∧ (0 : Int32).toInt ≤ 1 from by decide), (by (try dsimp only); omega), (by (try dsimp only); omega), (by (try dsimp only); first | (intro _; assumption) | (intro h9; exact absurd (by decide) h9) | (intro _; omega))⟩, by rw [ht]; exact hP, hD, by rw [ht]; (try dsimp only); omega, by rw [ht]; (try dsimp only); omega⟩, hS.F ht⟩) hS.2.2 dX4_readAll_227
                                          revert u hw9 hB9
                                          refine fz_p9 ?_
                                          intro iT_fault_102 iT_place_102 iT_kind_102 iT_at_102 iT_number_102 jT_name_102 iT_next_102 iM_differents_102 fM_different_102 hw9 hB9
                                          try dsimp only at hw9 hB9
                                          revert hw9
                                          refine fz_a8 ?_
                                          intro b_iT_at_102 b_iT_number_102 b_iT_next_102 b_iM_differents_102 f102_0 f102_1 f102_2 f102_3
                                          have hz8 := hB9.1.2.2
                                          rw [ht] at hz8
                                          have hSz := hB9.2
                                          rw [ht] at hSz
                                          have p8 := cj_5_0_1_3_4 (WJ hJ aJ kJ hT hM hL (.ref dF_tree_1) 7 0 0 gJ_binder_x31 0 iJ_firstSet_x31 iJ_secondSet_x31) (WL hL aL kL hT hM (.ref dF_tree_1) iL_names_x31 gL_key_x31 fL_kind_x31 fL_one_x31 fL_two_x31 fL_base_x31 iL_params_x31 fL_paramOver_x31 dL_paramOver_2 nL_params_2 fL_paramUnder_x31 dL_paramUnder_2 nL_pu_2 gL_over_x31 gL_under_x31 fL_bound_x31 iL_nameAt_89 iL_startAt_89 iL_steps_89 jL_scaleOver_x31 jL_scaleUnder_x31) (WF hF aF kF dF_tree_1 nF_tree_1 fF_tree_x31) (WT hT aT kT fT_tape dT_tape nT_tape iT_length iT_fault_102 iT_place_102 iT_kind_102 iT_at_102 iT_number_102 jT_name_102 iT_next_102) (WM hM aM kM iM_stands iM_variables_x31 iM_rows_x31 iM_goals_x31 iM_differents_102 iM_cases_x31 fM_from_x31 fM_to_x31 fM_whole_x31 fM_ways_x31 iM_plainRows_x31 fM_plainRow_x31 fM_kept_x31 fM_goalOver_x31 fM_goalUnder_x31 fM_goalMax_x31 fM_different_102)
                                          obtain ⟨hP, hD⟩ := frameG p9 p8 hP hD hk1 hFc (fz_P ht hB9.1.1) hB9.1.2.1
                                          have hz9 : H.size ≤ s.heap.size + (nF_tree_1 / 8 + 2 * nL_params_2 - (nF_tree / 8 + 2 * nL_params)) := by rw [hz8]; exact hz0
                                          have hn9 : nS s.heap.size H ≤ (2 * nF_tree_1 + 4 * nL_params_2 - (2 * nF_tree + 4 * nL_params)) := Nat.le_trans (Nat.le_of_eq (hSz.n hS0)) (Nat.le_trans (Nat.add_le_add hn0 (nS_0 (k := 0) (Nat.le_of_eq hz8))) (Nat.le_of_eq (Nat.add_zero _)))
                                          refine W.tight (cells2 := (nF_tree_1 / 8 + 2 * nL_params_2 - (nF_tree / 8 + 2 * nL_params))) (slots2 := (2 * nF_tree_1 + 4 * nL_params_2 - (2 * nF_tree + 4 * nL_params))) hz9 hn9 ?_
                                          clear hz9 hn9 hz0 hn0 hS0 hSz hz8
                                          refine lv_goto (tgt := 217) hx hb dX4_readAll_200 (by decide) ?_
                                          have hl : lv_has _ _ ([(1, .int l1_x31), (0, .ref (hJ 0))]) := lv_sub hl [0, 1] rfl
                                          refine W.known (fun hza hna => ?_)
                                          refine W.widen (k := 15000) (n := 160000) (by omega) (by omega) ?_
                                          exact join16 _ _ _ _ ⟨7, 0, 0, gJ_binder_x31, 0, iJ_firstSet_x31, iJ_secondSet_x31, iL_names_x31, gL_key_x31, fL_kind_x31, fL_one_x31, fL_two_x31, fL_base_x31, iL_params_x31, fL_paramOver_x31, fL_paramUnder_x31, gL_over_x31, gL_under_x31, fL_bound_x31, iL_nameAt_89, iL_steps_89, jL_scaleOver_x31, jL_scaleUnder_x31, fF_tree_x31, iT_fault_102, iT_place_102, iT_kind_102, iT_at_102, iT_number_102, jT_name_102, iT_next_102, iM_variables_x31, iM_rows_x31, iM_goals_x31, iM_differents_102, iM_cases_x31, fM_from_x31, fM_to_x31, fM_whole_x31, fM_ways_x31, iM_plainRows_x31, fM_plainRow_x31, fM_kept_x31, fM_goalOver_x31, fM_goalUnder_x31, fM_goalMax_x31, fM_different_102, (show 0 ≤ (7 : Int32).toInt ∧ (7 : Int32).toInt ≤ 72200 from by decide), (show 0 ≤ (0 : Int32).toInt ∧ (0 : Int32).toInt ≤ 25 from by decide), (show 0 ≤ (0 : Int32).toInt ∧ (0 : Int32).toInt ≤ 64 from by decide), (b_iJ_firstSet_x31), (b_iJ_secondSet_x31), (b_iL_names_x31), b_fL_kind_x31, b_fL_two_x31, b_fL_base_x31, (b_iL_params_x31), (b_iT_at_102), (b_iT_number_102), (b_iT_next_102), (b_iM_variables_x31), (b_iM_rows_x31), (b_iM_goals_x31), (b_iM_differents_102), (b_iM_cases_x31), b_fM_ways_x31, (b_iM_plainRows_x31), b_fM_plainRow_x31, (by first | with_reducible assumption | omega | (rw [iI_t (by omega) (by omega)]; omega) | assumption), (by first | with_reducible assumption | omega | (rw [iI_t (by omega) (by omega)]; omega) | assumption), (by first | with_reducible assumption | omega | assumption), (show iT_at_102.toInt ≤ iT_next_102.toInt from by first | assumption | omega), (show iT_next_102.toInt ≤ iT_length.toInt from by first | assumption | omega), (show (iT_kind_102.toInt = 44 ∨ iT_kind_102.toInt = 61) → iT_at_102.toInt < iT_next_102.toInt from by first | assumption | omega), (show iL_params_x31.toInt ≤ iT_at_102.toInt from by omega), (show iM_cases_x31.toInt ≤ 64 from by omega), ⟨by omega, by omega⟩, rfl, hP, hD, hS, hl⟩
                                        · skip
                                          by_cases s_90_270 : iT_kind_x31 = 270
                                          · have ts_90_270 : iT_kind_x31.toInt = 270 := toI_eq s_90_270 rfl (by decide)
                                            refine lv_tableIn (off := 113) (tgt := 203) hx hb dX4_readAll_90 (by rw [s_90_270]; decide) (by rw [s_90_270]; decide) (by rw [s_90_270]; decide) (by decide) ?_
                                            refine lv_aload_n hx hb dX4_readAll_203 rfl (lv_at hl 1 rfl) ?_
                                            refine W.known (fun hz0 hn0 => ?_)
                                            have hS0 := hS.1
                                            have hFc := allFree hD hS hA
                                            refine vx_callv (vx_runV (As := []) (rest := []) ⟨hx, hb, hml, hown, hts⟩ (vx_Met.sV (m_X4_readGoal l hst dC dI hJ aJ kJ hT hM hL 7 0 0 gJ_binder_x31 0 iJ_firstSet_x31 iJ_secondSet_x31 aL kL iL_names_x31 gL_key_x31 fL_kind_x31 fL_one_x31 fL_two_x31 fL_base_x31 iL_params_x31 fL_paramOver_x31 dL_paramOver_2 nL_params_2 fL_paramUnder_x31 dL_paramUnder_2 nL_pu_2 gL_over_x31 gL_under_x31 fL_bound_x31 iL_nameAt_89 iL_startAt_89 iL_steps_89 jL_scaleOver_x31 jL_scaleUnder_x31 hF aF kF dF_tree_1 nF_tree_1 fF_tree_x31 aT kT fT_tape dT_tape nT_tape iT_length iT_fault_x31 iT_place_x31 iT_kind_x31 iT_at_x31 iT_number_x31 jT_name_x31 iT_next_x31 aM kM iM_stands iM_variables_x31 iM_rows_x31 iM_goals_x31 iM_differents_x31 iM_cases_x31 fM_from_x31 fM_to_x31 fM_whole_x31 fM_ways_x31 iM_plainRows_x31 fM_plainRow_x31 fM_kept_x31 fM_goalOver_x31 fM_goalUnder_x31 fM_goalMax_x31 fM_different_x31 (show 0 ≤ (7 : Int32).toInt ∧ (7 : Int32).toInt ≤ 72200 from by decide) (show 0 ≤ (0 : Int32).toInt ∧ (0 : Int32).toInt ≤ 25 from by decide) (show 0 ≤ (0 : Int32).toInt ∧ (0 : Int32).toInt ≤ 64 from by decide) (b_iJ_firstSet_x31) (b_iJ_secondSet_x31) (b_iL_names_x31) b_fL_kind_x31 b_fL_two_x31 b_fL_base_x31 (b_iL_params_x31) (by first | exact b_nL_params_2 | with_reducible assumption | exact ⟨by omega, by omega⟩ | assumption) (by first | with_reducible assumption | omega | (rw [iI_t (by omega) (by omega)]; omega) | assumption) (by first | with_reducible assumption | omega | (rw [iI_t (by omega) (by omega)]; omega) | assumption) (by first | with_reducible assumption | omega | (rw [iI_t (by omega) (by omega)]; omega) | assumption) (by first | exact b_nF_tree_1 | with_reducible assumption | exact ⟨by omega, by omega⟩ | assumption) b_fT_tape (by first | exact b_nT_tape | with_reducible assumption | exact ⟨by omega, by omega⟩ | assumption) (b_iT_length) (b_iT_at_x31) (b_iT_number_x31) (b_iT_next_x31) (by first | with_reducible assumption | omega | assumption) (b_iM_stands) (b_iM_variables_x31) (b_iM_rows_x31) (b_iM_goals_x31) (b_iM_differents_x31) (b_iM_cases_x31) b_fM_ways_x31 (b_iM_plainRows_x31) b_fM_plainRow_x31 (by first | with_reducible assumption | omega | assumption) (by decide) (by have h7 : (7 : Int32).toInt = 7 := (by decide); omega) (by decide) (by first | with_reducible assumption | omega | (rw [iI_t (by omega) (by omega)]; omega) | decide | assumption) (by first | with_reducible assumption | omega | (rw [iI_t (by omega) (by omega)]; omega) | decide | assumption) (by first | with_reducible assumption | omega | (rw [iI_t (by omega) (by omega)]; omega) | decide | assumption) (by decide) (by first | with_reducible assumption | omega | (rw [iI_t (by omega) (by omega)]; omega) | decide | assumption) (by first | with_reducible assumption | omega | (rw [iI_t (by omega) (by omega)]; omega) | decide | assumption) (by first | with_reducible assumption | omega | (rw [iI_t (by omega) (by omega)]; omega) | decide | assumption) H.size) H) (cwV 0 hts gwsMX4_readAll_9 rfl rfl rfl (by decide +kernel) ⟨by first | decide +kernel | (dsimp only [headSpec] <;> omega), by first | decide +kernel | (dsimp only [headSpec] <;> omega)⟩) ⟨fun a U g mk q => by obtain ⟨q0, qh, q1, qP, qK, qD, qE⟩ := q; exact ⟨q0, qh, q1, qP, va_K.moved (u := U) (U := U.calling g mk a) (Vm.Alike.refl U.vm) qK, qD, qE.call⟩, va_recv hK hP (ci := 4) (q0 := 0) rfl rfl, fun U hU9 hW => ⟨rfl, hU9, by rw [hU9], by rw [hU9]; exact hP, va_K.moved hW.alike hK, hD.weaken (fun _ _ _ _ => trivial), by rw [hU9]; exact (((hE : CE A s s.heap).kept hS.2.1).narrow (fun q h => hFc q h)).warm hW⟩⟩ rfl rfl hl.1 rfl (lv_room (Nat.le_of_ble_eq_true rfl)) dX4_readAll_204 ⟨by first | decide +kernel | (dsimp only [headSpec] <;> omega), by first | decide +kernel | (dsimp only [headSpec] <;> omega)⟩) hS (fun q _ h => hFc q h) hFc (fun q _ h => hFc q h) (fun E ce q9 u t9_ H locs ht hvm hw9 hB9 hz1 hk1 hS hc1 hc2 hc3 => ?_) (fun u t9_ H locs ht hvm hw9 hB9 hz1 hk1 hS => ?_)
                                            · revert u hw9 hB9
                                              refine fz_p20 ?_
                                              intro iJ_used_103 iJ_depth_103 gJ_binder_103 iJ_binders_103 gL_over_103 gL_under_103 fL_bound_103 iL_steps_103 fF_tree_103 iT_fault_103 iT_place_103 iT_kind_103 iT_at_103 iT_number_103 jT_name_103 iT_next_103 iM_goals_103 fM_goalOver_103 fM_goalUnder_103 fM_goalMax_103 hw9 hB9
                                              try dsimp only at hw9 hB9
                                              revert hB9
                                              refine fz_a2 ?_
                                              intro hEx hB9
                                              revert hw9
                                              refine fz_a7 ?_
                                              intro b_iJ_used_103 b_iJ_depth_103 b_iJ_binders_103 b_iT_at_103 b_iT_number_103 b_iT_next_103 b_iM_goals_103
                                              have hP : va_P (dC, dI) vwCl (WJ hJ aJ kJ hT hM hL (.ref dF_tree_1) iJ_used_103 iJ_depth_103 0 gJ_binder_103 iJ_binders_103 iJ_firstSet_x31 iJ_secondSet_x31 ++ (WL hL aL kL hT hM (.ref dF_tree_1) iL_names_x31 gL_key_x31 fL_kind_x31 fL_one_x31 fL_two_x31 fL_base_x31 iL_params_x31 fL_paramOver_x31 dL_paramOver_2 nL_params_2 fL_paramUnder_x31 dL_paramUnder_2 nL_pu_2 gL_over_103 gL_under_103 fL_bound_103 iL_nameAt_89 iL_startAt_89 iL_steps_103 jL_scaleOver_x31 jL_scaleUnder_x31 ++ (WF hF aF kF dF_tree_1 nF_tree_1 fF_tree_103 ++ (WT hT aT kT fT_tape dT_tape nT_tape iT_length iT_fault_103 iT_place_103 iT_kind_103 iT_at_103 iT_number_103 jT_name_103 iT_next_103 ++ (WM hM aM kM iM_stands iM_variables_x31 iM_rows_x31 iM_goals_103 iM_differents_x31 iM_cases_x31 fM_from_x31 fM_to_x31 fM_whole_x31 fM_ways_x31 iM_plainRows_x31 fM_plainRow_x31 fM_kept_x31 fM_goalOver_103 fM_goalUnder_103 fM_goalMax_103 fM_different_x31))))) H := fz_P ht hB9.1
                                              have hD := fz_sd hP (hB9.2.weaken (fun _ q _ h => hFc q.1 h)) rfl
                                              subst hEx
                                              refine vx_catch (own := RX4) (name := "java/lang/IllegalArgumentException") hown [] ⟨29, 224, 225, 95⟩ [] (by rw [htb]; rfl) (fun z hz => absurd hz List.not_mem_nil) (by decide) (by decide) (hts _ hm_m_X4_readAll_3) (va_Nw.use rfl (hE.2.2.1.1 (.castable "java/lang/IllegalArgumentException" "java/lang/IllegalArgumentException") (by decide +kernel))) hc1 hc2 hc3 ?_
                                              refine lv_astore_n hx hb dX4_readAll_225 rfl hl (by decide) rfl (fun ls (hl : lv_has ls _ ([(1, .ref q9), (0, .ref (hJ 0))])) => ?_)
                                              refine lv_iconst (v := 0) hx hb dX4_readAll_226 (by decide) ?_
                                              refine W.known (fun hz9 hn9 => ?_)
                                              refine W.widen (k := 24027) (n := 448800) (by omega) (by omega) ?_
                                              exact W.zret (v := 0) hx hb hr rfl (fun t9_ ht hW => ⟨⟨(0 : Int32), (iJ_used_103, iJ_depth_103, 0, gJ_binder_103, iJ_binders_103, iJ_firstSet_x31, iJ_secondSet_x31, (.ref dF_tree_1), iL_names_x31, gL_key_x31, fL_kind_x31, fL_one_x31, fL_two_x31, fL_base_x31, iL_params_x31, fL_paramOver_x31, dL_paramOver_2, nL_params_2, fL_paramUnder_x31, dL_paramUnder_2, nL_pu_2, gL_over_103, gL_under_103, fL_bound_103, iL_nameAt_89, iL_startAt_89, iL_steps_103, jL_scaleOver_x31, jL_scaleUnder_x31, dF_tree_1, nF_tree_1, fF_tree_103, iT_fault_103, iT_place_103, iT_kind_103, iT_at_103, iT_number_103, jT_name_103, iT_next_103, iM_variables_x31, iM_rows_x31, iM_goals_103, iM_differents_x31, iM_cases_x31, fM_from_x31, fM_to_x31, fM_whole_x31, fM_ways_x31, iM_plainRows_x31, fM_plainRow_x31, fM_kept_x31, fM_goalOver_103, fM_goalUnder_103, fM_goalMax_103, fM_different_x31), rfl, ⟨b_iJ_used_103, b_iJ_depth_103, b_iJ_binders_103, b_iJ_firstSet_x31, b_iJ_secondSet_x31, b_iL_names_x31, b_fL_kind_x31, b_fL_two_x31, b_fL_base_x31, b_iL_params_x31, (by (try dsimp only); exact (by first | exact b_nL_params_2 | with_reducible assumption | exact ⟨by omega, by omega⟩ | assumption)), (by (try dsimp only); exact (by first | exact b_nF_tree_1 | with_reducible assumption | exact ⟨by omega, by omega⟩ | assumption)), b_iT_at_103, b_iT_number_103, b_iT_next_103, b_iM_variables_x31, b_iM_rows_x31, b_iM_goals_103, b_iM_differents_x31, b_iM_cases_x31, b_fM_ways_x31, b_iM_plainRows_x31, b_fM_plainRow_x31, (by (try dsimp only); exact (by first | with_reducible assumption | omega | (rw [iI_t (by omega) (by omega)]; omega) | assumption)), (by (try dsimp only); exact (by first | with_reducible assumption | omega | (rw [iI_t (by omega) (by omega)]; omega) | assumption)), (by (try dsimp only); exact (by first | with_reducible assumption | omega | (rw [iI_t (by omega) (by omega)]; omega) | assumption)), (by (try dsimp only); exact (by first | with_reducible assumption | omega | assumption)), (show 0 ≤ (0 : Int32).toInt ∧ (0 : Int32).toInt ≤ 1 from by decide), (by (try dsimp only); omega), (by (try dsimp only); omega), (by (try dsimp only); first | (intro _; assumption) | (intro h9; exact absurd (by decide) h9) | (intro _; omega))⟩, by rw [ht]; exact hP, hD, by rw [ht]; (try dsimp only); omega, by rw [ht]; (try dsimp only); omega⟩, hS.F ht⟩) hS.2.2 dX4_readAll_227
                                            revert u hw9 hB9
                                            refine fz_p20 ?_
                                            intro iJ_used_103 iJ_depth_103 gJ_binder_103 iJ_binders_103 gL_over_103 gL_under_103 fL_bound_103 iL_steps_103 fF_tree_103 iT_fault_103 iT_place_103 iT_kind_103 iT_at_103 iT_number_103 jT_name_103 iT_next_103 iM_goals_103 fM_goalOver_103 fM_goalUnder_103 fM_goalMax_103 hw9 hB9
                                            try dsimp only at hw9 hB9
                                            revert hw9
                                            refine fz_a11 ?_
                                            intro b_iJ_used_103 b_iJ_depth_103 b_iJ_binders_103 b_iT_at_103 b_iT_number_103 b_iT_next_103 b_iM_goals_103 f103_0 f103_1 f103_2 f103_3
                                            have hz8 := hB9.1.2.2
                                            rw [ht] at hz8
                                            have hSz := hB9.2
                                            rw [ht] at hSz
                                            have hP : va_P (dC, dI) vwCl (WJ hJ aJ kJ hT hM hL (.ref dF_tree_1) iJ_used_103 iJ_depth_103 0 gJ_binder_103 iJ_binders_103 iJ_firstSet_x31 iJ_secondSet_x31 ++ (WL hL aL kL hT hM (.ref dF_tree_1) iL_names_x31 gL_key_x31 fL_kind_x31 fL_one_x31 fL_two_x31 fL_base_x31 iL_params_x31 fL_paramOver_x31 dL_paramOver_2 nL_params_2 fL_paramUnder_x31 dL_paramUnder_2 nL_pu_2 gL_over_103 gL_under_103 fL_bound_103 iL_nameAt_89 iL_startAt_89 iL_steps_103 jL_scaleOver_x31 jL_scaleUnder_x31 ++ (WF hF aF kF dF_tree_1 nF_tree_1 fF_tree_103 ++ (WT hT aT kT fT_tape dT_tape nT_tape iT_length iT_fault_103 iT_place_103 iT_kind_103 iT_at_103 iT_number_103 jT_name_103 iT_next_103 ++ (WM hM aM kM iM_stands iM_variables_x31 iM_rows_x31 iM_goals_103 iM_differents_x31 iM_cases_x31 fM_from_x31 fM_to_x31 fM_whole_x31 fM_ways_x31 iM_plainRows_x31 fM_plainRow_x31 fM_kept_x31 fM_goalOver_103 fM_goalUnder_103 fM_goalMax_103 fM_different_x31))))) H := fz_P ht hB9.1.1
                                            have hD := fz_sd hP (hB9.1.2.1.weaken (fun _ q _ h => hFc q.1 h)) rfl
                                            have hz9 : H.size ≤ s.heap.size + (nF_tree_1 / 8 + 2 * nL_params_2 - (nF_tree / 8 + 2 * nL_params)) := by rw [hz8]; exact hz0
                                            have hn9 : nS s.heap.size H ≤ (2 * nF_tree_1 + 4 * nL_params_2 - (2 * nF_tree + 4 * nL_params)) := Nat.le_trans (Nat.le_of_eq (hSz.n hS0)) (Nat.le_trans (Nat.add_le_add hn0 (nS_0 (k := 0) (Nat.le_of_eq hz8))) (Nat.le_of_eq (Nat.add_zero _)))
                                            refine W.tight (cells2 := (nF_tree_1 / 8 + 2 * nL_params_2 - (nF_tree / 8 + 2 * nL_params))) (slots2 := (2 * nF_tree_1 + 4 * nL_params_2 - (2 * nF_tree + 4 * nL_params))) hz9 hn9 ?_
                                            clear hz9 hn9 hz0 hn0 hS0 hSz hz8
                                            refine lv_goto (tgt := 217) hx hb dX4_readAll_207 (by decide) ?_
                                            have hl : lv_has _ _ ([(1, .int l1_x31), (0, .ref (hJ 0))]) := lv_sub hl [0, 1] rfl
                                            refine W.known (fun hza hna => ?_)
                                            refine W.widen (k := 15000) (n := 160000) (by omega) (by omega) ?_
                                            exact join16 _ _ _ _ ⟨iJ_used_103, iJ_depth_103, 0, gJ_binder_103, iJ_binders_103, iJ_firstSet_x31, iJ_secondSet_x31, iL_names_x31, gL_key_x31, fL_kind_x31, fL_one_x31, fL_two_x31, fL_base_x31, iL_params_x31, fL_paramOver_x31, fL_paramUnder_x31, gL_over_103, gL_under_103, fL_bound_103, iL_nameAt_89, iL_steps_103, jL_scaleOver_x31, jL_scaleUnder_x31, fF_tree_103, iT_fault_103, iT_place_103, iT_kind_103, iT_at_103, iT_number_103, jT_name_103, iT_next_103, iM_variables_x31, iM_rows_x31, iM_goals_103, iM_differents_x31, iM_cases_x31, fM_from_x31, fM_to_x31, fM_whole_x31, fM_ways_x31, iM_plainRows_x31, fM_plainRow_x31, fM_kept_x31, fM_goalOver_103, fM_goalUnder_103, fM_goalMax_103, fM_different_x31, (b_iJ_used_103), (b_iJ_depth_103), (b_iJ_binders_103), (b_iJ_firstSet_x31), (b_iJ_secondSet_x31), (b_iL_names_x31), b_fL_kind_x31, b_fL_two_x31, b_fL_base_x31, (b_iL_params_x31), (b_iT_at_103), (b_iT_number_103), (b_iT_next_103), (b_iM_variables_x31), (b_iM_rows_x31), (b_iM_goals_103), (b_iM_differents_x31), (b_iM_cases_x31), b_fM_ways_x31, (b_iM_plainRows_x31), b_fM_plainRow_x31, (by first | with_reducible assumption | omega | (rw [iI_t (by omega) (by omega)]; omega) | assumption), (by first | with_reducible assumption | omega | (rw [iI_t (by omega) (by omega)]; omega) | assumption), (by first | with_reducible assumption | omega | assumption), (show iT_at_103.toInt ≤ iT_next_103.toInt from by first | assumption | omega), (show iT_next_103.toInt ≤ iT_length.toInt from by first | assumption | omega), (show (iT_kind_103.toInt = 44 ∨ iT_kind_103.toInt = 61) → iT_at_103.toInt < iT_next_103.toInt from by first | assumption | omega), (show iL_params_x31.toInt ≤ iT_at_103.toInt from by omega), (show iM_cases_x31.toInt ≤ 64 from by omega), ⟨by omega, by omega⟩, rfl, hP, hD, hS, hl⟩
                                          · skip
                                            by_cases s_90_271 : iT_kind_x31 = 271
                                            · have ts_90_271 : iT_kind_x31.toInt = 271 := toI_eq s_90_271 rfl (by decide)
                                              refine lv_tableIn (off := 113) (tgt := 203) hx hb dX4_readAll_90 (by rw [s_90_271]; decide) (by rw [s_90_271]; decide) (by rw [s_90_271]; decide) (by decide) ?_
                                              refine lv_aload_n hx hb dX4_readAll_203 rfl (lv_at hl 1 rfl) ?_
                                              refine W.known (fun hz0 hn0 => ?_)
                                              have hS0 := hS.1
                                              have hFc := allFree hD hS hA
                                              refine vx_callv (vx_runV (As := []) (rest := []) ⟨hx, hb, hml, hown, hts⟩ (vx_Met.sV (m_X4_readGoal l hst dC dI hJ aJ kJ hT hM hL 7 0 0 gJ_binder_x31 0 iJ_firstSet_x31 iJ_secondSet_x31 aL kL iL_names_x31 gL_key_x31 fL_kind_x31 fL_one_x31 fL_two_x31 fL_base_x31 iL_params_x31 fL_paramOver_x31 dL_paramOver_2 nL_params_2 fL_paramUnder_x31 dL_paramUnder_2 nL_pu_2 gL_over_x31 gL_under_x31 fL_bound_x31 iL_nameAt_89 iL_startAt_89 iL_steps_89 jL_scaleOver_x31 jL_scaleUnder_x31 hF aF kF dF_tree_1 nF_tree_1 fF_tree_x31 aT kT fT_tape dT_tape nT_tape iT_length iT_fault_x31 iT_place_x31 iT_kind_x31 iT_at_x31 iT_number_x31 jT_name_x31 iT_next_x31 aM kM iM_stands iM_variables_x31 iM_rows_x31 iM_goals_x31 iM_differents_x31 iM_cases_x31 fM_from_x31 fM_to_x31 fM_whole_x31 fM_ways_x31 iM_plainRows_x31 fM_plainRow_x31 fM_kept_x31 fM_goalOver_x31 fM_goalUnder_x31 fM_goalMax_x31 fM_different_x31 (show 0 ≤ (7 : Int32).toInt ∧ (7 : Int32).toInt ≤ 72200 from by decide) (show 0 ≤ (0 : Int32).toInt ∧ (0 : Int32).toInt ≤ 25 from by decide) (show 0 ≤ (0 : Int32).toInt ∧ (0 : Int32).toInt ≤ 64 from by decide) (b_iJ_firstSet_x31) (b_iJ_secondSet_x31) (b_iL_names_x31) b_fL_kind_x31 b_fL_two_x31 b_fL_base_x31 (b_iL_params_x31) (by first | exact b_nL_params_2 | with_reducible assumption | exact ⟨by omega, by omega⟩ | assumption) (by first | with_reducible assumption | omega | (rw [iI_t (by omega) (by omega)]; omega) | assumption) (by first | with_reducible assumption | omega | (rw [iI_t (by omega) (by omega)]; omega) | assumption) (by first | with_reducible assumption | omega | (rw [iI_t (by omega) (by omega)]; omega) | assumption) (by first | exact b_nF_tree_1 | with_reducible assumption | exact ⟨by omega, by omega⟩ | assumption) b_fT_tape (by first | exact b_nT_tape | with_reducible assumption | exact ⟨by omega, by omega⟩ | assumption) (b_iT_length) (b_iT_at_x31) (b_iT_number_x31) (b_iT_next_x31) (by first | with_reducible assumption | omega | assumption) (b_iM_stands) (b_iM_variables_x31) (b_iM_rows_x31) (b_iM_goals_x31) (b_iM_differents_x31) (b_iM_cases_x31) b_fM_ways_x31 (b_iM_plainRows_x31) b_fM_plainRow_x31 (by first | with_reducible assumption | omega | assumption) (by decide) (by have h7 : (7 : Int32).toInt = 7 := (by decide); omega) (by decide) (by first | with_reducible assumption | omega | (rw [iI_t (by omega) (by omega)]; omega) | decide | assumption) (by first | with_reducible assumption | omega | (rw [iI_t (by omega) (by omega)]; omega) | decide | assumption) (by first | with_reducible assumption | omega | (rw [iI_t (by omega) (by omega)]; omega) | decide | assumption) (by decide) (by first | with_reducible assumption | omega | (rw [iI_t (by omega) (by omega)]; omega) | decide | assumption) (by first | with_reducible assumption | omega | (rw [iI_t (by omega) (by omega)]; omega) | decide | assumption) (by first | with_reducible assumption | omega | (rw [iI_t (by omega) (by omega)]; omega) | decide | assumption) H.size) H) (cwV 0 hts gwsMX4_readAll_9 rfl rfl rfl (by decide +kernel) ⟨by first | decide +kernel | (dsimp only [headSpec] <;> omega), by first | decide +kernel | (dsimp only [headSpec] <;> omega)⟩) ⟨fun a U g mk q => by obtain ⟨q0, qh, q1, qP, qK, qD, qE⟩ := q; exact ⟨q0, qh, q1, qP, va_K.moved (u := U) (U := U.calling g mk a) (Vm.Alike.refl U.vm) qK, qD, qE.call⟩, va_recv hK hP (ci := 4) (q0 := 0) rfl rfl, fun U hU9 hW => ⟨rfl, hU9, by rw [hU9], by rw [hU9]; exact hP, va_K.moved hW.alike hK, hD.weaken (fun _ _ _ _ => trivial), by rw [hU9]; exact (((hE : CE A s s.heap).kept hS.2.1).narrow (fun q h => hFc q h)).warm hW⟩⟩ rfl rfl hl.1 rfl (lv_room (Nat.le_of_ble_eq_true rfl)) dX4_readAll_204 ⟨by first | decide +kernel | (dsimp only [headSpec] <;> omega), by first | decide +kernel | (dsimp only [headSpec] <;> omega)⟩) hS (fun q _ h => hFc q h) hFc (fun q _ h => hFc q h) (fun E ce q9 u t9_ H locs ht hvm hw9 hB9 hz1 hk1 hS hc1 hc2 hc3 => ?_) (fun u t9_ H locs ht hvm hw9 hB9 hz1 hk1 hS => ?_)
                                              · revert u hw9 hB9
                                                refine fz_p20 ?_
                                                intro iJ_used_104 iJ_depth_104 gJ_binder_104 iJ_binders_104 gL_over_104 gL_under_104 fL_bound_104 iL_steps_104 fF_tree_104 iT_fault_104 iT_place_104 iT_kind_104 iT_at_104 iT_number_104 jT_name_104 iT_next_104 iM_goals_104 fM_goalOver_104 fM_goalUnder_104 fM_goalMax_104 hw9 hB9
                                                try dsimp only at hw9 hB9
                                                revert hB9
                                                refine fz_a2 ?_
                                                intro hEx hB9
                                                revert hw9
                                                refine fz_a7 ?_
                                                intro b_iJ_used_104 b_iJ_depth_104 b_iJ_binders_104 b_iT_at_104 b_iT_number_104 b_iT_next_104 b_iM_goals_104
                                                have hP : va_P (dC, dI) vwCl (WJ hJ aJ kJ hT hM hL (.ref dF_tree_1) iJ_used_104 iJ_depth_104 0 gJ_binder_104 iJ_binders_104 iJ_firstSet_x31 iJ_secondSet_x31 ++ (WL hL aL kL hT hM (.ref dF_tree_1) iL_names_x31 gL_key_x31 fL_kind_x31 fL_one_x31 fL_two_x31 fL_base_x31 iL_params_x31 fL_paramOver_x31 dL_paramOver_2 nL_params_2 fL_paramUnder_x31 dL_paramUnder_2 nL_pu_2 gL_over_104 gL_under_104 fL_bound_104 iL_nameAt_89 iL_startAt_89 iL_steps_104 jL_scaleOver_x31 jL_scaleUnder_x31 ++ (WF hF aF kF dF_tree_1 nF_tree_1 fF_tree_104 ++ (WT hT aT kT fT_tape dT_tape nT_tape iT_length iT_fault_104 iT_place_104 iT_kind_104 iT_at_104 iT_number_104 jT_name_104 iT_next_104 ++ (WM hM aM kM iM_stands iM_variables_x31 iM_rows_x31 iM_goals_104 iM_differents_x31 iM_cases_x31 fM_from_x31 fM_to_x31 fM_whole_x31 fM_ways_x31 iM_plainRows_x31 fM_plainRow_x31 fM_kept_x31 fM_goalOver_104 fM_goalUnder_104 fM_goalMax_104 fM_different_x31))))) H := fz_P ht hB9.1
                                                have hD := fz_sd hP (hB9.2.weaken (fun _ q _ h => hFc q.1 h)) rfl
                                                subst hEx
                                                refine vx_catch (own := RX4) (name := "java/lang/IllegalArgumentException") hown [] ⟨29, 224, 225, 95⟩ [] (by rw [htb]; rfl) (fun z hz => absurd hz List.not_mem_nil) (by decide) (by decide) (hts _ hm_m_X4_readAll_3) (va_Nw.use rfl (hE.2.2.1.1 (.castable "java/lang/IllegalArgumentException" "java/lang/IllegalArgumentException") (by decide +kernel))) hc1 hc2 hc3 ?_
                                                refine lv_astore_n hx hb dX4_readAll_225 rfl hl (by decide) rfl (fun ls (hl : lv_has ls _ ([(1, .ref q9), (0, .ref (hJ 0))])) => ?_)
                                                refine lv_iconst (v := 0) hx hb dX4_readAll_226 (by decide) ?_
                                                refine W.known (fun hz9 hn9 => ?_)
                                                refine W.widen (k := 24027) (n := 448800) (by omega) (by omega) ?_
                                                exact W.zret (v := 0) hx hb hr rfl (fun t9_ ht hW => ⟨⟨(0 : Int32), (iJ_used_104, iJ_depth_104, 0, gJ_binder_104, iJ_binders_104, iJ_firstSet_x31, iJ_secondSet_x31, (.ref dF_tree_1), iL_names_x31, gL_key_x31, fL_kind_x31, fL_one_x31, fL_two_x31, fL_base_x31, iL_params_x31, fL_paramOver_x31, dL_paramOver_2, nL_params_2, fL_paramUnder_x31, dL_paramUnder_2, nL_pu_2, gL_over_104, gL_under_104, fL_bound_104, iL_nameAt_89, iL_startAt_89, iL_steps_104, jL_scaleOver_x31, jL_scaleUnder_x31, dF_tree_1, nF_tree_1, fF_tree_104, iT_fault_104, iT_place_104, iT_kind_104, iT_at_104, iT_number_104, jT_name_104, iT_next_104, iM_variables_x31, iM_rows_x31, iM_goals_104, iM_differents_x31, iM_cases_x31, fM_from_x31, fM_to_x31, fM_whole_x31, fM_ways_x31, iM_plainRows_x31, fM_plainRow_x31, fM_kept_x31, fM_goalOver_104, fM_goalUnder_104, fM_goalMax_104, fM_different_x31), rfl, ⟨b_iJ_used_104, b_iJ_depth_104, b_iJ_binders_104, b_iJ_firstSet_x31, b_iJ_secondSet_x31, b_iL_names_x31, b_fL_kind_x31, b_fL_two_x31, b_fL_base_x31, b_iL_params_x31, (by (try dsimp only); exact (by first | exact b_nL_params_2 | with_reducible assumption | exact ⟨by omega, by omega⟩ | assumption)), (by (try dsimp only); exact (by first | exact b_nF_tree_1 | with_reducible assumption | exact ⟨by omega, by omega⟩ | assumption)), b_iT_at_104, b_iT_number_104, b_iT_next_104, b_iM_variables_x31, b_iM_rows_x31, b_iM_goals_104, b_iM_differents_x31, b_iM_cases_x31, b_fM_ways_x31, b_iM_plainRows_x31, b_fM_plainRow_x31, (by (try dsimp only); exact (by first | with_reducible assumption | omega | (rw [iI_t (by omega) (by omega)]; omega) | assumption)), (by (try dsimp only); exact (by first | with_reducible assumption | omega | (rw [iI_t (by omega) (by omega)]; omega) | assumption)), (by (try dsimp only); exact (by first | with_reducible assumption | omega | (rw [iI_t (by omega) (by omega)]; omega) | assumption)), (by (try dsimp only); exact (by first | with_reducible assumption | omega | assumption)), (show 0 ≤ (0 : Int32).toInt ∧ (0 : Int32).toInt ≤ 1 from by decide), (by (try dsimp only); omega), (by (try dsimp only); omega), (by (try dsimp only); first | (intro _; assumption) | (intro h9; exact absurd (by decide) h9) | (intro _; omega))⟩, by rw [ht]; exact hP, hD, by rw [ht]; (try dsimp only); omega, by rw [ht]; (try dsimp only); omega⟩, hS.F ht⟩) hS.2.2 dX4_readAll_227
                                              revert u hw9 hB9
                                              refine fz_p20 ?_
                                              intro iJ_used_104 iJ_depth_104 gJ_binder_104 iJ_binders_104 gL_over_104 gL_under_104 fL_bound_104 iL_steps_104 fF_tree_104 iT_fault_104 iT_place_104 iT_kind_104 iT_at_104 iT_number_104 jT_name_104 iT_next_104 iM_goals_104 fM_goalOver_104 fM_goalUnder_104 fM_goalMax_104 hw9 hB9
                                              try dsimp only at hw9 hB9
                                              revert hw9
                                              refine fz_a11 ?_
                                              intro b_iJ_used_104 b_iJ_depth_104 b_iJ_binders_104 b_iT_at_104 b_iT_number_104 b_iT_next_104 b_iM_goals_104 f104_0 f104_1 f104_2 f104_3
                                              have hz8 := hB9.1.2.2
                                              rw [ht] at hz8
                                              have hSz := hB9.2
                                              rw [ht] at hSz
                                              have hP : va_P (dC, dI) vwCl (WJ hJ aJ kJ hT hM hL (.ref dF_tree_1) iJ_used_104 iJ_depth_104 0 gJ_binder_104 iJ_binders_104 iJ_firstSet_x31 iJ_secondSet_x31 ++ (WL hL aL kL hT hM (.ref dF_tree_1) iL_names_x31 gL_key_x31 fL_kind_x31 fL_one_x31 fL_two_x31 fL_base_x31 iL_params_x31 fL_paramOver_x31 dL_paramOver_2 nL_params_2 fL_paramUnder_x31 dL_paramUnder_2 nL_pu_2 gL_over_104 gL_under_104 fL_bound_104 iL_nameAt_89 iL_startAt_89 iL_steps_104 jL_scaleOver_x31 jL_scaleUnder_x31 ++ (WF hF aF kF dF_tree_1 nF_tree_1 fF_tree_104 ++ (WT hT aT kT fT_tape dT_tape nT_tape iT_length iT_fault_104 iT_place_104 iT_kind_104 iT_at_104 iT_number_104 jT_name_104 iT_next_104 ++ (WM hM aM kM iM_stands iM_variables_x31 iM_rows_x31 iM_goals_104 iM_differents_x31 iM_cases_x31 fM_from_x31 fM_to_x31 fM_whole_x31 fM_ways_x31 iM_plainRows_x31 fM_plainRow_x31 fM_kept_x31 fM_goalOver_104 fM_goalUnder_104 fM_goalMax_104 fM_different_x31))))) H := fz_P ht hB9.1.1
                                              have hD := fz_sd hP (hB9.1.2.1.weaken (fun _ q _ h => hFc q.1 h)) rfl
                                              have hz9 : H.size ≤ s.heap.size + (nF_tree_1 / 8 + 2 * nL_params_2 - (nF_tree / 8 + 2 * nL_params)) := by rw [hz8]; exact hz0
                                              have hn9 : nS s.heap.size H ≤ (2 * nF_tree_1 + 4 * nL_params_2 - (2 * nF_tree + 4 * nL_params)) := Nat.le_trans (Nat.le_of_eq (hSz.n hS0)) (Nat.le_trans (Nat.add_le_add hn0 (nS_0 (k := 0) (Nat.le_of_eq hz8))) (Nat.le_of_eq (Nat.add_zero _)))
                                              refine W.tight (cells2 := (nF_tree_1 / 8 + 2 * nL_params_2 - (nF_tree / 8 + 2 * nL_params))) (slots2 := (2 * nF_tree_1 + 4 * nL_params_2 - (2 * nF_tree + 4 * nL_params))) hz9 hn9 ?_
                                              clear hz9 hn9 hz0 hn0 hS0 hSz hz8
                                              refine lv_goto (tgt := 217) hx hb dX4_readAll_207 (by decide) ?_
                                              have hl : lv_has _ _ ([(1, .int l1_x31), (0, .ref (hJ 0))]) := lv_sub hl [0, 1] rfl
                                              refine W.known (fun hza hna => ?_)
                                              refine W.widen (k := 15000) (n := 160000) (by omega) (by omega) ?_
                                              exact join16 _ _ _ _ ⟨iJ_used_104, iJ_depth_104, 0, gJ_binder_104, iJ_binders_104, iJ_firstSet_x31, iJ_secondSet_x31, iL_names_x31, gL_key_x31, fL_kind_x31, fL_one_x31, fL_two_x31, fL_base_x31, iL_params_x31, fL_paramOver_x31, fL_paramUnder_x31, gL_over_104, gL_under_104, fL_bound_104, iL_nameAt_89, iL_steps_104, jL_scaleOver_x31, jL_scaleUnder_x31, fF_tree_104, iT_fault_104, iT_place_104, iT_kind_104, iT_at_104, iT_number_104, jT_name_104, iT_next_104, iM_variables_x31, iM_rows_x31, iM_goals_104, iM_differents_x31, iM_cases_x31, fM_from_x31, fM_to_x31, fM_whole_x31, fM_ways_x31, iM_plainRows_x31, fM_plainRow_x31, fM_kept_x31, fM_goalOver_104, fM_goalUnder_104, fM_goalMax_104, fM_different_x31, (b_iJ_used_104), (b_iJ_depth_104), (b_iJ_binders_104), (b_iJ_firstSet_x31), (b_iJ_secondSet_x31), (b_iL_names_x31), b_fL_kind_x31, b_fL_two_x31, b_fL_base_x31, (b_iL_params_x31), (b_iT_at_104), (b_iT_number_104), (b_iT_next_104), (b_iM_variables_x31), (b_iM_rows_x31), (b_iM_goals_104), (b_iM_differents_x31), (b_iM_cases_x31), b_fM_ways_x31, (b_iM_plainRows_x31), b_fM_plainRow_x31, (by first | with_reducible assumption | omega | (rw [iI_t (by omega) (by omega)]; omega) | assumption), (by first | with_reducible assumption | omega | (rw [iI_t (by omega) (by omega)]; omega) | assumption), (by first | with_reducible assumption | omega | assumption), (show iT_at_104.toInt ≤ iT_next_104.toInt from by first | assumption | omega), (show iT_next_104.toInt ≤ iT_length.toInt from by first | assumption | omega), (show (iT_kind_104.toInt = 44 ∨ iT_kind_104.toInt = 61) → iT_at_104.toInt < iT_next_104.toInt from by first | assumption | omega), (show iL_params_x31.toInt ≤ iT_at_104.toInt from by omega), (show iM_cases_x31.toInt ≤ 64 from by omega), ⟨by omega, by omega⟩, rfl, hP, hD, hS, hl⟩
                                            · skip
                                              refine lv_tableOut (tgt := 210) hx hb dX4_readAll_90 (tbo_X4_readAll_90 s_90_256 s_90_257 s_90_258 s_90_259 s_90_260 s_90_261 s_90_262 s_90_263 s_90_264 s_90_265 s_90_266 s_90_267 s_90_268 s_90_269 s_90_270 s_90_271) (by decide) ?_
                                              exact k9 _ _ _ _ ⟨rfl, rfl, rfl, rfl⟩
            · rintro _ _ _ _ ⟨rfl, rfl, rfl, rfl⟩
              refine lv_aload_n hx hb dX4_readAll_210 rfl (lv_at hl 1 rfl) ?_
              refine va_get (D := (dC, dI)) (ci := 4) (v := .ref (hT 0)) (C := RX4) (T := TX4) (N := 11) hx hb hts iwsMX4_readAll_in4 hown hK hP 0 rfl rfl 0 (by decide) (hts _ hm_m_X4_readAll_1) (fun _ h9 => h9) rfl dX4_readAll_211 ?_
              have p9 := cj_5_3 (WJ hJ aJ kJ hT hM hL (.ref dF_tree_1) 7 0 0 gJ_binder_x31 0 iJ_firstSet_x31 iJ_secondSet_x31) (WL hL aL kL hT hM (.ref dF_tree_1) iL_names_x31 gL_key_x31 fL_kind_x31 fL_one_x31 fL_two_x31 fL_base_x31 iL_params_x31 fL_paramOver_x31 dL_paramOver_2 nL_params_2 fL_paramUnder_x31 dL_paramUnder_2 nL_pu_2 gL_over_x31 gL_under_x31 fL_bound_x31 iL_nameAt_89 iL_startAt_89 iL_steps_89 jL_scaleOver_x31 jL_scaleUnder_x31) (WF hF aF kF dF_tree_1 nF_tree_1 fF_tree_x31) (WT hT aT kT fT_tape dT_tape nT_tape iT_length iT_fault_x31 iT_place_x31 iT_kind_x31 iT_at_x31 iT_number_x31 jT_name_x31 iT_next_x31) (WM hM aM kM iM_stands iM_variables_x31 iM_rows_x31 iM_goals_x31 iM_differents_x31 iM_cases_x31 fM_from_x31 fM_to_x31 fM_whole_x31 fM_ways_x31 iM_plainRows_x31 fM_plainRow_x31 fM_kept_x31 fM_goalOver_x31 fM_goalUnder_x31 fM_goalMax_x31 fM_different_x31)
              have hPc := hP.mem (fun q h => p9.mem_iff.mpr (List.mem_append_left _ h))
              have hDc := (hD.perm p9).left
              have hKc : va_K (dC, dI) vwCl (tT kT) _ := hK.sub [12] rfl
              have hFc := freeG p9 hD hS hA
              refine vx_callv (vx_runV (As := []) (rest := []) ⟨hx, hb, hml, hown, hts⟩ (m_X9_failWord l hst dC dI hT aT kT fT_tape dT_tape nT_tape iT_length iT_fault_x31 iT_place_x31 iT_kind_x31 iT_at_x31 iT_number_x31 jT_name_x31 iT_next_x31 b_fT_tape (by first | exact b_nT_tape | with_reducible assumption | exact ⟨by omega, by omega⟩ | assumption) (b_iT_length) (b_iT_at_x31) (b_iT_number_x31) (b_iT_next_x31) (by first | with_reducible assumption | omega | assumption) H.size) (cwV 0 hts gwsMX4_readAll_10 rfl rfl rfl (by decide +kernel) ⟨by first | decide +kernel | (dsimp only [headSpec] <;> omega), by first | decide +kernel | (dsimp only [headSpec] <;> omega)⟩) (fz_preE (va_recv hK hP (ci := 9) (q0 := 14) rfl rfl) hPc hKc hDc (fun a U g mk qE => qE.call) (fun U hU9 hW => by rw [hU9]; exact (((hE : CE A s s.heap).kept hS.2.1).narrow (fun q h => hFc q h)).warm hW)) rfl rfl hl.1 rfl (lv_room (Nat.le_of_ble_eq_true rfl)) dX4_readAll_214 ⟨by first | decide +kernel | (dsimp only [headSpec] <;> omega), by first | decide +kernel | (dsimp only [headSpec] <;> omega)⟩) hS (fun q _ h => hFc q h) hFc (fun q _ h => hFc q h) (fun E ce q9 u t9_ H locs ht hvm hw9 hB9 hz1 hk1 hS hc1 hc2 hc3 => ?_) (fun u t9_ H1 locs ht hvm hw9 hB9 hz1 hk1 hS => ?_)
              · revert u hw9 hB9
                refine fz_p2 ?_
                intro iT_fault_105 iT_place_105 hw9 hB9
                try dsimp only at hw9 hB9
                revert hB9
                refine fz_a2 ?_
                intro hEx hB9
                clear hw9
                have p8 := cj_5_3 (WJ hJ aJ kJ hT hM hL (.ref dF_tree_1) 7 0 0 gJ_binder_x31 0 iJ_firstSet_x31 iJ_secondSet_x31) (WL hL aL kL hT hM (.ref dF_tree_1) iL_names_x31 gL_key_x31 fL_kind_x31 fL_one_x31 fL_two_x31 fL_base_x31 iL_params_x31 fL_paramOver_x31 dL_paramOver_2 nL_params_2 fL_paramUnder_x31 dL_paramUnder_2 nL_pu_2 gL_over_x31 gL_under_x31 fL_bound_x31 iL_nameAt_89 iL_startAt_89 iL_steps_89 jL_scaleOver_x31 jL_scaleUnder_x31) (WF hF aF kF dF_tree_1 nF_tree_1 fF_tree_x31) (WT hT aT kT fT_tape dT_tape nT_tape iT_length iT_fault_105 iT_place_105 iT_kind_x31 iT_at_x31 iT_number_x31 jT_name_x31 iT_next_x31) (WM hM aM kM iM_stands iM_variables_x31 iM_rows_x31 iM_goals_x31 iM_differents_x31 iM_cases_x31 fM_from_x31 fM_to_x31 fM_whole_x31 fM_ways_x31 iM_plainRows_x31 fM_plainRow_x31 fM_kept_x31 fM_goalOver_x31 fM_goalUnder_x31 fM_goalMax_x31 fM_different_x31)
                obtain ⟨hP, hD⟩ := frameG p9 p8 hP hD hk1 hFc (fz_P ht hB9.1) hB9.2
                subst hEx
                refine vx_catch (own := RX4) (name := "java/lang/IllegalArgumentException") hown [] ⟨29, 224, 225, 95⟩ [] (by rw [htb]; rfl) (fun z hz => absurd hz List.not_mem_nil) (by decide) (by decide) (hts _ hm_m_X4_readAll_3) (va_Nw.use rfl (hE.2.2.1.1 (.castable "java/lang/IllegalArgumentException" "java/lang/IllegalArgumentException") (by decide +kernel))) hc1 hc2 hc3 ?_
                refine lv_astore_n hx hb dX4_readAll_225 rfl hl (by decide) rfl (fun ls (hl : lv_has ls _ ([(1, .ref q9), (0, .ref (hJ 0))])) => ?_)
                refine lv_iconst (v := 0) hx hb dX4_readAll_226 (by decide) ?_
                refine W.known (fun hz9 hn9 => ?_)
                refine W.widen (k := 24027) (n := 448800) (by omega) (by omega) ?_
                exact W.zret (v := 0) hx hb hr rfl (fun t9_ ht hW => ⟨⟨(0 : Int32), (7, 0, 0, gJ_binder_x31, 0, iJ_firstSet_x31, iJ_secondSet_x31, (.ref dF_tree_1), iL_names_x31, gL_key_x31, fL_kind_x31, fL_one_x31, fL_two_x31, fL_base_x31, iL_params_x31, fL_paramOver_x31, dL_paramOver_2, nL_params_2, fL_paramUnder_x31, dL_paramUnder_2, nL_pu_2, gL_over_x31, gL_under_x31, fL_bound_x31, iL_nameAt_89, iL_startAt_89, iL_steps_89, jL_scaleOver_x31, jL_scaleUnder_x31, dF_tree_1, nF_tree_1, fF_tree_x31, iT_fault_105, iT_place_105, iT_kind_x31, iT_at_x31, iT_number_x31, jT_name_x31, iT_next_x31, iM_variables_x31, iM_rows_x31, iM_goals_x31, iM_differents_x31, iM_cases_x31, fM_from_x31, fM_to_x31, fM_whole_x31, fM_ways_x31, iM_plainRows_x31, fM_plainRow_x31, fM_kept_x31, fM_goalOver_x31, fM_goalUnder_x31, fM_goalMax_x31, fM_different_x31), rfl, ⟨(by (try dsimp only); exact (show 0 ≤ (7 : Int32).toInt ∧ (7 : Int32).toInt ≤ 72200 from by decide)), (by (try dsimp only); exact (show 0 ≤ (0 : Int32).toInt ∧ (0 : Int32).toInt ≤ 25 from by decide)), (by (try dsimp only); exact (show 0 ≤ (0 : Int32).toInt ∧ (0 : Int32).toInt ≤ 64 from by decide)), b_iJ_firstSet_x31, b_iJ_secondSet_x31, b_iL_names_x31, b_fL_kind_x31, b_fL_two_x31, b_fL_base_x31, b_iL_params_x31, (by (try dsimp only); exact (by first | exact b_nL_params_2 | with_reducible assumption | exact ⟨by omega, by omega⟩ | assumption)), (by (try dsimp only); exact (by first | exact b_nF_tree_1 | with_reducible assumption | exact ⟨by omega, by omega⟩ | assumption)), b_iT_at_x31, b_iT_number_x31, b_iT_next_x31, b_iM_variables_x31, b_iM_rows_x31, b_iM_goals_x31, b_iM_differents_x31, b_iM_cases_x31, b_fM_ways_x31, b_iM_plainRows_x31, b_fM_plainRow_x31, (by (try dsimp only); exact (by first | with_reducible assumption | omega | (rw [iI_t (by omega) (by omega)]; omega) | assumption)), (by (try dsimp only); exact (by first | with_reducible assumption | omega | (rw [iI_t (by omega) (by omega)]; omega) | assumption)), (by (try dsimp only); exact (by first | with_reducible assumption | omega | (rw [iI_t (by omega) (by omega)]; omega) | assumption)), (by (try dsimp only); exact (by first | with_reducible assumption | omega | assumption)), (show 0 ≤ (0 : Int32).toInt ∧ (0 : Int32).toInt ≤ 1 from by decide), (by (try dsimp only); omega), (by (try dsimp only); omega), (by (try dsimp only); first | (intro _; assumption) | (intro h9; exact absurd (by decide) h9) | (intro _; omega))⟩, by rw [ht]; exact hP, hD, by rw [ht]; (try dsimp only); omega, by rw [ht]; (try dsimp only); omega⟩, hS.F ht⟩) hS.2.2 dX4_readAll_227
              exact False.elim hw9
          · intro H locs ls stk
            refine fz_e47 ?_
            intro iJ_used_j16 iJ_depth_j16 jJ_ownName_j16 gJ_binder_j16 iJ_binders_j16 iJ_firstSet_j16 iJ_secondSet_j16 iL_names_j16 gL_key_j16 fL_kind_j16 fL_one_j16 fL_two_j16 fL_base_j16 iL_params_j16 fL_paramOver_j16 fL_paramUnder_j16 gL_over_j16 gL_under_j16 fL_bound_j16 iL_nameAt_j16 iL_steps_j16 jL_scaleOver_j16 jL_scaleUnder_j16 fF_tree_j16 iT_fault_j16 iT_place_j16 iT_kind_j16 iT_at_j16 iT_number_j16 jT_name_j16 iT_next_j16 iM_variables_j16 iM_rows_j16 iM_goals_j16 iM_differents_j16 iM_cases_j16 fM_from_j16 fM_to_j16 fM_whole_j16 fM_ways_j16 iM_plainRows_j16 fM_plainRow_j16 fM_kept_j16 fM_goalOver_j16 fM_goalUnder_j16 fM_goalMax_j16 fM_different_j16
            refine fz_a35 ?_
            intro b_iJ_used_j16 b_iJ_depth_j16 b_iJ_binders_j16 b_iJ_firstSet_j16 b_iJ_secondSet_j16 b_iL_names_j16 b_fL_kind_j16 b_fL_two_j16 b_fL_base_j16 b_iL_params_j16 b_iT_at_j16 b_iT_number_j16 b_iT_next_j16 b_iM_variables_j16 b_iM_rows_j16 b_iM_goals_j16 b_iM_differents_j16 b_iM_cases_j16 b_fM_ways_j16 b_iM_plainRows_j16 b_fM_plainRow_j16 b_nm_j16 b_pm_j16 b_pr_j16 hq1 hq2 hq3 hpa hcx hzn9_29 hst9_30 hP hD hS hl
            have hzj := hzn9_29.1
            have hnj := hzn9_29.2
            clear hzn9_29
            subst hst9_30
            refine W.tight (cells2 := (nF_tree_1 / 8 + 2 * nL_params_2 - (nF_tree / 8 + 2 * nL_params))) (slots2 := (2 * nF_tree_1 + 4 * nL_params_2 - (2 * nF_tree + 4 * nL_params))) (tg1 hzj hS.1) (tg2 hnj) ?_
            refine lv_iinc (v := (iI (l1_x31.toInt + 1))) hx hb dX4_readAll_217 hl (k := 0) rfl (iI_add2 (iI_of _) (by decide : (1 : Int32) = iI 1)) (by decide) rfl (fun ls (hl : lv_has ls _ ([(1, .int (iI (l1_x31.toInt + 1))), (0, .ref (hJ 0))])) => ?_)
            refine lv_goto (tgt := 31) hx hb dX4_readAll_220 (by decide) ?_
            have hl : lv_has _ _ ([(1, .int (iI (l1_x31.toInt + 1))), (0, .ref (hJ 0))]) := lv_sub hl [0, 1] rfl
            exact ihx31 iJ_used_j16 iJ_depth_j16 jJ_ownName_j16 gJ_binder_j16 iJ_binders_j16 iJ_firstSet_j16 iJ_secondSet_j16 iL_names_j16 gL_key_j16 fL_kind_j16 fL_one_j16 fL_two_j16 fL_base_j16 iL_params_j16 fL_paramOver_j16 fL_paramUnder_j16 gL_over_j16 gL_under_j16 fL_bound_j16 iL_nameAt_j16 iL_startAt_89 iL_steps_j16 jL_scaleOver_j16 jL_scaleUnder_j16 fF_tree_j16 iT_fault_j16 iT_place_j16 iT_kind_j16 iT_at_j16 iT_number_j16 jT_name_j16 iT_next_j16 iM_variables_j16 iM_rows_j16 iM_goals_j16 iM_differents_j16 iM_cases_j16 fM_from_j16 fM_to_j16 fM_whole_j16 fM_ways_j16 iM_plainRows_j16 fM_plainRow_j16 fM_kept_j16 fM_goalOver_j16 fM_goalUnder_j16 fM_goalMax_j16 fM_different_j16 (iI (l1_x31.toInt + 1)) _ _ _ (by first | exact b_iJ_used_j16 | with_reducible assumption | exact ⟨by omega, by omega⟩ | assumption) (by first | exact b_iJ_depth_j16 | with_reducible assumption | exact ⟨by omega, by omega⟩ | assumption) (by first | exact b_iJ_binders_j16 | with_reducible assumption | exact ⟨by omega, by omega⟩ | assumption) (by first | exact b_iJ_firstSet_j16 | with_reducible assumption | exact ⟨by omega, by omega⟩ | assumption) (by first | exact b_iJ_secondSet_j16 | with_reducible assumption | exact ⟨by omega, by omega⟩ | assumption) (by first | exact b_iL_names_j16 | with_reducible assumption | exact ⟨by omega, by omega⟩ | assumption) b_fL_kind_j16 b_fL_two_j16 b_fL_base_j16 (by first | exact b_iL_params_j16 | with_reducible assumption | exact ⟨by omega, by omega⟩ | assumption) (by first | exact b_iT_at_j16 | with_reducible assumption | exact ⟨by omega, by omega⟩ | assumption) (by first | exact b_iT_number_j16 | with_reducible assumption | exact ⟨by omega, by omega⟩ | assumption) (by first | exact b_iT_next_j16 | with_reducible assumption | exact ⟨by omega, by omega⟩ | assumption) (by first | exact b_iM_variables_j16 | with_reducible assumption | exact ⟨by omega, by omega⟩ | assumption) (by first | exact b_iM_rows_j16 | with_reducible assumption | exact ⟨by omega, by omega⟩ | assumption) (by first | exact b_iM_goals_j16 | with_reducible assumption | exact ⟨by omega, by omega⟩ | assumption) (by first | exact b_iM_differents_j16 | with_reducible assumption | exact ⟨by omega, by omega⟩ | assumption) (by first | exact b_iM_cases_j16 | with_reducible assumption | exact ⟨by omega, by omega⟩ | assumption) b_fM_ways_j16 (by first | exact b_iM_plainRows_j16 | with_reducible assumption | exact ⟨by omega, by omega⟩ | assumption) b_fM_plainRow_j16 (iI_rng (Int.le_trans (by decide) (Int.add_le_add (b_l1_x31.1) (Int.le_refl _))) (by omega) (by decide) (by decide)) (by first | with_reducible assumption | omega | (rw [iI_t (by omega) (by omega)]; omega) | assumption) (by first | with_reducible assumption | omega | (rw [iI_t (by omega) (by omega)]; omega) | assumption) (by first | with_reducible assumption | omega | assumption) (show iT_at_j16.toInt ≤ iT_next_j16.toInt from by first | assumption | omega) (show iT_next_j16.toInt ≤ iT_length.toInt from by first | assumption | omega) (show (iT_kind_j16.toInt = 44 ∨ iT_kind_j16.toInt = 61) → iT_at_j16.toInt < iT_next_j16.toInt from by first | assumption | omega) (show iL_params_j16.toInt ≤ iT_at_j16.toInt from by omega) (show iM_cases_j16.toInt ≤ 64 from by omega) (by have e9 : ((iI (l1_x31.toInt + 1))).toInt = (l1_x31.toInt + 1) := (iI_t (Int.le_trans (by decide) (Int.add_le_add (b_l1_x31.1) (Int.le_refl _))) (Int.le_trans (Int.add_le_add (b_l1_x31.2) (Int.le_refl _)) (by decide))); omega) hP hD hS hl
    · rintro H locs ls stk ⟨⟨hzj, hnj⟩, rfl, hP, hD, hS, hl⟩
      refine W.tight (cells2 := (nF_tree_1 / 8 + 2 * nL_params_2 - (nF_tree / 8 + 2 * nL_params))) (slots2 := (2 * nF_tree_1 + 4 * nL_params_2 - (2 * nF_tree + 4 * nL_params))) (tg1 hzj hS.1) (tg2 hnj) ?_
      refine lv_iconst (v := 1) hx hb dX4_readAll_223 (by decide) ?_
      refine W.known (fun hz9 hn9 => ?_)
      refine W.widen (k := 24027) (n := 448800) (by omega) (by omega) ?_
      exact W.zret (v := 1) hx hb hr rfl (fun t9_ ht hW => ⟨⟨(1 : Int32), (iJ_used_x31, iJ_depth_x31, jJ_ownName_x31, gJ_binder_x31, iJ_binders_x31, iJ_firstSet_x31, iJ_secondSet_x31, (.ref dF_tree_1), iL_names_x31, gL_key_x31, fL_kind_x31, fL_one_x31, fL_two_x31, fL_base_x31, iL_params_x31, fL_paramOver_x31, dL_paramOver_2, nL_params_2, fL_paramUnder_x31, dL_paramUnder_2, nL_pu_2, gL_over_x31, gL_under_x31, fL_bound_x31, iL_nameAt_x31, iL_startAt_x31, iL_steps_x31, jL_scaleOver_x31, jL_scaleUnder_x31, dF_tree_1, nF_tree_1, fF_tree_x31, iT_fault_x31, iT_place_x31, iT_kind_x31, iT_at_x31, iT_number_x31, jT_name_x31, iT_next_x31, iM_variables_x31, iM_rows_x31, iM_goals_x31, iM_differents_x31, iM_cases_x31, fM_from_x31, fM_to_x31, fM_whole_x31, fM_ways_x31, iM_plainRows_x31, fM_plainRow_x31, fM_kept_x31, fM_goalOver_x31, fM_goalUnder_x31, fM_goalMax_x31, fM_different_x31), rfl, ⟨b_iJ_used_x31, b_iJ_depth_x31, b_iJ_binders_x31, b_iJ_firstSet_x31, b_iJ_secondSet_x31, b_iL_names_x31, b_fL_kind_x31, b_fL_two_x31, b_fL_base_x31, b_iL_params_x31, (by (try dsimp only); exact (by first | exact b_nL_params_2 | with_reducible assumption | exact ⟨by omega, by omega⟩ | assumption)), (by (try dsimp only); exact (by first | exact b_nF_tree_1 | with_reducible assumption | exact ⟨by omega, by omega⟩ | assumption)), b_iT_at_x31, b_iT_number_x31, b_iT_next_x31, b_iM_variables_x31, b_iM_rows_x31, b_iM_goals_x31, b_iM_differents_x31, b_iM_cases_x31, b_fM_ways_x31, b_iM_plainRows_x31, b_fM_plainRow_x31, (by (try dsimp only); exact (by first | with_reducible assumption | omega | (rw [iI_t (by omega) (by omega)]; omega) | assumption)), (by (try dsimp only); exact (by first | with_reducible assumption | omega | (rw [iI_t (by omega) (by omega)]; omega) | assumption)), (by (try dsimp only); exact (by first | with_reducible assumption | omega | (rw [iI_t (by omega) (by omega)]; omega) | assumption)), (by (try dsimp only); exact (by first | with_reducible assumption | omega | assumption)), (show 0 ≤ (1 : Int32).toInt ∧ (1 : Int32).toInt ≤ 1 from by decide), (by (try dsimp only); omega), (by (try dsimp only); omega), (by (try dsimp only); first | (intro _; assumption) | (intro h9; exact absurd (by decide) h9) | (intro _; omega))⟩, by rw [ht]; exact hP, hD, by rw [ht]; (try dsimp only); omega, by rw [ht]; (try dsimp only); omega⟩, hS.F ht⟩) hS.2.2 dX4_readAll_224
end

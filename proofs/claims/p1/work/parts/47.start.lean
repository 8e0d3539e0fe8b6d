set_option maxHeartbeats 4000000 in
set_option maxRecDepth 100000 in
theorem whole_start {p : Program} {e : Env} {s : State} {m : MethodId} {below : List Frame} {meth : Method} {c : Code} (l : Launch) (hst : l.stackTraces = false) {b L : Nat} {xs : Nat → Int32} (hL : L ≤ 6) (C0 : lw_At p s m meth c b L xs) : W p l e room_1 s m #[Value.ref b] below meth c s.heap [] 0 0 (lw_Z below #[Value.ref b] s) (entryFrame m ([Value.ref b] : List Value).toArray 7) := by
  obtain ⟨hx, hb, hr, hml, hown, hts, hX, hbl, hlocks, hgv⟩ := id C0
  have hb : c.code = cL_law := hb
  have hown : s.vm.findClass RL = some m.cls := hown
  have hn15 : va_Nw (.methodLinkNest RX11 15 yX9_init RX11) s := va_Nw.of rfl (hts _ (by decide +kernel))
  have hn22 : va_Nw (.methodLinkNest RX11 22 yX1_init RX11) s := va_Nw.of rfl (hts _ (by decide +kernel))
  obtain ⟨c0, i0, hKn0⟩ := u_known (C := RX0) (T := TX0) (N := 7) (n := 7) hts il_0 (hts (.instantiable RX0 7) (by decide +kernel))
  obtain ⟨c1, i1, hKn1⟩ := u_known (C := RX1) (T := TX1) (N := 17) (n := 17) hts il_1 (hts (.instantiable RX1 17) (by decide +kernel))
  obtain ⟨c2, i2, hKn2⟩ := u_known (C := RX2) (T := TX2) (N := 14) (n := 14) hts il_2 (hts (.instantiable RX2 14) (by decide +kernel))
  obtain ⟨c3, i3, hKn3⟩ := u_known (C := RX3) (T := TX3) (N := 17) (n := 17) hts il_3 (hts (.instantiable RX3 17) (by decide +kernel))
  obtain ⟨c4, i4, hKn4⟩ := u_known (C := RX4) (T := TX4) (N := 11) (n := 11) hts il_4 (hts (.instantiable RX4 11) (by decide +kernel))
  obtain ⟨c5, i5, hKn5⟩ := u_known (C := RX5) (T := TX5) (N := 19) (n := 19) hts il_5 (hts (.instantiable RX5 19) (by decide +kernel))
  obtain ⟨c6, i6, hKn6⟩ := u_known (C := RX6) (T := TX6) (N := 13) (n := 13) hts il_6 (hts (.instantiable RX6 13) (by decide +kernel))
  obtain ⟨c7, i7, hKn7⟩ := u_known (C := RX7) (T := TX7) (N := 20) (n := 20) hts il_7 (hts (.instantiable RX7 20) (by decide +kernel))
  obtain ⟨c8, i8, hKn8⟩ := u_known (C := RX8) (T := TX8) (N := 3) (n := 3) hts il_8 (hts (.instantiable RX8 3) (by decide +kernel))
  obtain ⟨c9, i9, hKn9⟩ := u_known (C := RX9) (T := TX9) (N := 9) (n := 9) hts il_9 (hts (.instantiable RX9 9) (by decide +kernel))
  obtain ⟨c10, i10, hKn10⟩ := u_known (C := RX10) (T := TX10) (N := 20) (n := 20) hts il_10 (hts (.instantiable RX10 20) (by decide +kernel))
  obtain ⟨c11, i11, hKn11⟩ := u_known (C := RX11) (T := TX11) (N := 11) (n := 11) hts il_11 (hts (.instantiable RX11 11) (by decide +kernel))
  obtain ⟨c12, i12, hKn12⟩ := u_known (C := RX12) (T := TX12) (N := 163) (n := 163) hts il_12 (hts (.instantiable RX12 163) (by decide +kernel))
  obtain ⟨dC, dI, hKc⟩ : ∃ (dC : Nat → ClassId) (dI : Nat → Nat → Nat), ∀ (k : Nat) (q : vw_C), vwCl[k]? = some q → u_Kn s q.1 q.2.1 q.2.2 (dC k) (dI k) := by
    refine ⟨fun k => [c0, c1, c2, c3, c4, c5, c6, c7, c8, c9, c10, c11, c12].getD k c0, fun k => [i0, i1, i2, i3, i4, i5, i6, i7, i8, i9, i10, i11, i12].getD k i0, ?_⟩
    intro k q hq
    match k, hq with
    | 0, hq => cases hq; exact hKn0
    | 1, hq => cases hq; exact hKn1
    | 2, hq => cases hq; exact hKn2
    | 3, hq => cases hq; exact hKn3
    | 4, hq => cases hq; exact hKn4
    | 5, hq => cases hq; exact hKn5
    | 6, hq => cases hq; exact hKn6
    | 7, hq => cases hq; exact hKn7
    | 8, hq => cases hq; exact hKn8
    | 9, hq => cases hq; exact hKn9
    | 10, hq => cases hq; exact hKn10
    | 11, hq => cases hq; exact hKn11
    | 12, hq => cases hq; exact hKn12
    | k + 13, hq => simp [vwCl] at hq
  obtain ⟨A, hA, hA2⟩ : ∃ A : Nat → Prop, (∀ q : Nat, s.heap.size ≤ q → A q) ∧ (∀ q : Nat, A q → s.heap.size ≤ q) := ⟨fun q => s.heap.size ≤ q, fun _ h => h, fun _ h => h⟩
  have X0 : lx_ok A s := lx_of C0 (fun a h1 h2 => absurd (hA2 a h2) (Nat.not_le.mpr h1))
  have hbA : ¬ A b := fun h => absurd (hA2 b h) (Nat.not_le.mpr hbl)
  have hS : va_S A s.heap s.heap [] := va_S.rf
  have hK : va_K (dC, dI) vwCl [] s := ⟨hKc, fun k q h => by simp at h⟩
  have hP : va_P (dC, dI) vwCl [] s.heap := nilP
  have hD : va_D A [] := nilD
  have hl := lv_entry ([.ref b]) (n := 7) (Nat.le_of_ble_eq_true rfl)
  rw [lg_entry_eq]
  generalize (lg_sl ([.ref b]) ++ List.replicate (7 - (lg_sl ([.ref b])).length) Slot.unset).toArray = ls at hl ⊢
  have hl : lv_has ls 7 [(0, .ref b)] := hl
  refine va_new (ci := 11) (fs := [.null, .null, .null, .null, .int 0, .null, .null, .null, .null, .null, .null]) (C := RX11) (T := TX11) (N := 11) hx hb hts il_11 tyX11 tyX11_ok hown (hts (.classLink RL 8 RX11) (by decide +kernel)) (hts (.instantiable RX11 11) (by decide +kernel)) (hts (.initialized RX11) (by decide +kernel)) hK hP hD hS hA rfl (by decide +kernel) (by decide +kernel) (by decide +kernel) dL_law_0 (fun q0 H hP hD hS => ?_)
  have hP : va_P (dC, dI) vwCl [(q0, .inr (11, [.null, .null, .null, .null, .int 0, .null, .null, .null, .null, .null, .null]))] H := hP
  have hD : va_D A [(q0, .inr (11, [.null, .null, .null, .null, .int 0, .null, .null, .null, .null, .null, .null]))] := hD
  refine W.widen (k := 1) (n := 11) (by decide +kernel) (by decide +kernel) ?_
  refine lv_dup hx hb dL_law_3 rfl ?_
  have hPc := hP.sub (ws' := [(q0, .inr (11, [.null, .null, .null, .null, .int 0, .null, .null, .null, .null, .null, .null]))]) [0] rfl
  have hDc := hD.sub (ws' := [(q0, .inr (11, [.null, .null, .null, .null, .int 0, .null, .null, .null, .null, .null, .null]))]) [0] (by decide) rfl
  have hKc := hK.sub (tys' := []) [] rfl
  have hFc := va_free (wc := [(q0, .inr (11, [.null, .null, .null, .null, .int 0, .null, .null, .null, .null, .null, .null]))]) hD hS hA [0] rfl
  refine va_callv (va_runI (As := []) (rest := [.ref q0]) ⟨hx, hb, hml, hown, hts⟩ (c_X11_init l dC dI q0 H.size) (cwI 0 hts gw_11 rfl rfl rfl (hts (.initialized RX11) (by decide +kernel)) (hts (.methodLink RL 88 yX11_init) (by decide +kernel)) (hts (.instanceMethod yX11_init) (by decide +kernel)) rfl (by decide +kernel) ⟨by decide +kernel, by decide +kernel⟩) ⟨fun a U g mk q => by obtain ⟨q0, q1, qP, qK, qD, qhn15, qhn22⟩ := q; exact ⟨q0, q1, qP, va_K.moved (u := U) (U := U.calling g mk a) (Vm.Alike.refl U.vm) qK, qD, va_Nw.same (u := U) (U := U.calling g mk a) rfl rfl qhn15, va_Nw.same (u := U) (U := U.calling g mk a) rfl rfl qhn22⟩, fun U hU9 hW => ⟨rfl, by rw [hU9], by rw [hU9]; exact hPc, va_K.moved hW.alike hKc, hDc.weaken (fun _ _ _ _ => trivial), va_Nw.warmM hW hn15, va_Nw.warmM hW hn22⟩⟩ rfl rfl hl.1 rfl (lv_room (Nat.le_of_ble_eq_true rfl)) dL_law_4 ⟨by decide +kernel, by decide +kernel⟩) hS (fun q _ h => hFc q h) hFc (fun u t H1 locs ht hvm hw hB hz1 hk1 hS => ?_)
  obtain ⟨aa4, kk4⟩ := u
  obtain ⟨hP1, hK1, hD1⟩ := hB
  rw [ht] at hP1
  have hK1 := va_K.moved hvm.symm hK1
  obtain ⟨hP, hD⟩ := va_join (wr := []) (w1 := [(q0, .inr (11, [.ref (aa4 0), .ref (aa4 1), .ref (aa4 3), .ref (aa4 14), .int 0, .null, .null, .null, .null, .null, .null])), ((aa4 0), .inl ((kk4 0), 5, .inl (fun _ => 0))), ((aa4 1), .inr (9, [.ref (aa4 2), .int 0, .int 0, .int (-1), .int 0, .int 0, .int 0, .long 0, .int 0])), ((aa4 2), .inl ((kk4 1), 64, .inl (fun _ => 0))), ((aa4 3), .inr (1, [.int 0, .int 0, .int 0, .int 0, .int 0, .int 0, .ref (aa4 4), .ref (aa4 5), .ref (aa4 6), .ref (aa4 7), .int 0, .ref (aa4 8), .ref (aa4 9), .ref (aa4 10), .ref (aa4 11), .ref (aa4 12), .ref (aa4 13)])), ((aa4 4), .inl ((kk4 2), 8, .inl (fun _ => 0))), ((aa4 5), .inl ((kk4 3), 8, .inl (fun _ => 0))), ((aa4 6), .inl ((kk4 4), 8, .inl (fun _ => 0))), ((aa4 7), .inl ((kk4 5), 12, .inl (fun _ => 0))), ((aa4 8), .inl ((kk4 6), 12, .inl (fun _ => 0))), ((aa4 9), .inl ((kk4 7), 360, .inl (fun _ => 0))), ((aa4 10), .inl ((kk4 8), 27, .inl (fun _ => 0))), ((aa4 11), .inl ((kk4 9), 27, .inl (fun _ => 0))), ((aa4 12), .inl ((kk4 10), 3, .inl (fun _ => 0))), ((aa4 13), .inl ((kk4 11), 8, .inl (fun _ => 0))), ((aa4 14), .inl ((kk4 12), 64, .inl (fun _ => 0)))]) hP hD [0] [] rfl rfl (by decide) (by decide) hk1 hFc hP1 hD1
  have hK := hK.app hK1
  generalize H1 = H at hP hS ⊢
  have hP : va_P (dC, dI) vwCl [(q0, .inr (11, [.ref (aa4 0), .ref (aa4 1), .ref (aa4 3), .ref (aa4 14), .int 0, .null, .null, .null, .null, .null, .null])), ((aa4 0), .inl ((kk4 0), 5, .inl (fun _ => 0))), ((aa4 1), .inr (9, [.ref (aa4 2), .int 0, .int 0, .int (-1), .int 0, .int 0, .int 0, .long 0, .int 0])), ((aa4 2), .inl ((kk4 1), 64, .inl (fun _ => 0))), ((aa4 3), .inr (1, [.int 0, .int 0, .int 0, .int 0, .int 0, .int 0, .ref (aa4 4), .ref (aa4 5), .ref (aa4 6), .ref (aa4 7), .int 0, .ref (aa4 8), .ref (aa4 9), .ref (aa4 10), .ref (aa4 11), .ref (aa4 12), .ref (aa4 13)])), ((aa4 4), .inl ((kk4 2), 8, .inl (fun _ => 0))), ((aa4 5), .inl ((kk4 3), 8, .inl (fun _ => 0))), ((aa4 6), .inl ((kk4 4), 8, .inl (fun _ => 0))), ((aa4 7), .inl ((kk4 5), 12, .inl (fun _ => 0))), ((aa4 8), .inl ((kk4 6), 12, .inl (fun _ => 0))), ((aa4 9), .inl ((kk4 7), 360, .inl (fun _ => 0))), ((aa4 10), .inl ((kk4 8), 27, .inl (fun _ => 0))), ((aa4 11), .inl ((kk4 9), 27, .inl (fun _ => 0))), ((aa4 12), .inl ((kk4 10), 3, .inl (fun _ => 0))), ((aa4 13), .inl ((kk4 11), 8, .inl (fun _ => 0))), ((aa4 14), .inl ((kk4 12), 64, .inl (fun _ => 0)))] H := hP
  have hD : va_D A [(q0, .inr (11, [.ref (aa4 0), .ref (aa4 1), .ref (aa4 3), .ref (aa4 14), .int 0, .null, .null, .null, .null, .null, .null])), ((aa4 0), .inl ((kk4 0), 5, .inl (fun _ => 0))), ((aa4 1), .inr (9, [.ref (aa4 2), .int 0, .int 0, .int (-1), .int 0, .int 0, .int 0, .long 0, .int 0])), ((aa4 2), .inl ((kk4 1), 64, .inl (fun _ => 0))), ((aa4 3), .inr (1, [.int 0, .int 0, .int 0, .int 0, .int 0, .int 0, .ref (aa4 4), .ref (aa4 5), .ref (aa4 6), .ref (aa4 7), .int 0, .ref (aa4 8), .ref (aa4 9), .ref (aa4 10), .ref (aa4 11), .ref (aa4 12), .ref (aa4 13)])), ((aa4 4), .inl ((kk4 2), 8, .inl (fun _ => 0))), ((aa4 5), .inl ((kk4 3), 8, .inl (fun _ => 0))), ((aa4 6), .inl ((kk4 4), 8, .inl (fun _ => 0))), ((aa4 7), .inl ((kk4 5), 12, .inl (fun _ => 0))), ((aa4 8), .inl ((kk4 6), 12, .inl (fun _ => 0))), ((aa4 9), .inl ((kk4 7), 360, .inl (fun _ => 0))), ((aa4 10), .inl ((kk4 8), 27, .inl (fun _ => 0))), ((aa4 11), .inl ((kk4 9), 27, .inl (fun _ => 0))), ((aa4 12), .inl ((kk4 10), 3, .inl (fun _ => 0))), ((aa4 13), .inl ((kk4 11), 8, .inl (fun _ => 0))), ((aa4 14), .inl ((kk4 12), 64, .inl (fun _ => 0)))] := hD
  have hK : va_K (dC, dI) vwCl [((kk4 0), .int), ((kk4 1), .byte), ((kk4 2), .int), ((kk4 3), .int), ((kk4 4), .boolean), ((kk4 5), .int), ((kk4 6), .int), ((kk4 7), .int), ((kk4 8), .int), ((kk4 9), .int), ((kk4 10), .boolean), ((kk4 11), .int), ((kk4 12), .byte)] s := hK
  refine W.widen (k := 16) (n := 643) (by decide +kernel) (by decide +kernel) ?_
  refine lv_astore_n (lv' := [(1, .ref q0), (0, .ref b)]) hx hb dL_law_7 rfl hl (by decide) rfl (fun ls hl => ?_)
  refine va_new (ci := 12) (fs := fM v0M) (C := RX12) (T := TX12) (N := 163) hx hb hts il_12 tyX12 tyX12_ok hown (hts (.classLink RL 89 RX12) (by decide +kernel)) (hts (.instantiable RX12 163) (by decide +kernel)) (hts (.initialized RX12) (by decide +kernel)) hK hP hD hS hA rfl (by decide +kernel) (by decide +kernel) (by decide +kernel) dL_law_8 (fun h2 H hP hD hS => ?_)
  have hP : va_P (dC, dI) vwCl [(q0, .inr (11, [.ref (aa4 0), .ref (aa4 1), .ref (aa4 3), .ref (aa4 14), .int 0, .null, .null, .null, .null, .null, .null])), ((aa4 0), .inl ((kk4 0), 5, .inl (fun _ => 0))), ((aa4 1), .inr (9, [.ref (aa4 2), .int 0, .int 0, .int (-1), .int 0, .int 0, .int 0, .long 0, .int 0])), ((aa4 2), .inl ((kk4 1), 64, .inl (fun _ => 0))), ((aa4 3), .inr (1, [.int 0, .int 0, .int 0, .int 0, .int 0, .int 0, .ref (aa4 4), .ref (aa4 5), .ref (aa4 6), .ref (aa4 7), .int 0, .ref (aa4 8), .ref (aa4 9), .ref (aa4 10), .ref (aa4 11), .ref (aa4 12), .ref (aa4 13)])), ((aa4 4), .inl ((kk4 2), 8, .inl (fun _ => 0))), ((aa4 5), .inl ((kk4 3), 8, .inl (fun _ => 0))), ((aa4 6), .inl ((kk4 4), 8, .inl (fun _ => 0))), ((aa4 7), .inl ((kk4 5), 12, .inl (fun _ => 0))), ((aa4 8), .inl ((kk4 6), 12, .inl (fun _ => 0))), ((aa4 9), .inl ((kk4 7), 360, .inl (fun _ => 0))), ((aa4 10), .inl ((kk4 8), 27, .inl (fun _ => 0))), ((aa4 11), .inl ((kk4 9), 27, .inl (fun _ => 0))), ((aa4 12), .inl ((kk4 10), 3, .inl (fun _ => 0))), ((aa4 13), .inl ((kk4 11), 8, .inl (fun _ => 0))), ((aa4 14), .inl ((kk4 12), 64, .inl (fun _ => 0))), (h2, .inr (12, fM v0M))] H := hP
  have hD : va_D A [(q0, .inr (11, [.ref (aa4 0), .ref (aa4 1), .ref (aa4 3), .ref (aa4 14), .int 0, .null, .null, .null, .null, .null, .null])), ((aa4 0), .inl ((kk4 0), 5, .inl (fun _ => 0))), ((aa4 1), .inr (9, [.ref (aa4 2), .int 0, .int 0, .int (-1), .int 0, .int 0, .int 0, .long 0, .int 0])), ((aa4 2), .inl ((kk4 1), 64, .inl (fun _ => 0))), ((aa4 3), .inr (1, [.int 0, .int 0, .int 0, .int 0, .int 0, .int 0, .ref (aa4 4), .ref (aa4 5), .ref (aa4 6), .ref (aa4 7), .int 0, .ref (aa4 8), .ref (aa4 9), .ref (aa4 10), .ref (aa4 11), .ref (aa4 12), .ref (aa4 13)])), ((aa4 4), .inl ((kk4 2), 8, .inl (fun _ => 0))), ((aa4 5), .inl ((kk4 3), 8, .inl (fun _ => 0))), ((aa4 6), .inl ((kk4 4), 8, .inl (fun _ => 0))), ((aa4 7), .inl ((kk4 5), 12, .inl (fun _ => 0))), ((aa4 8), .inl ((kk4 6), 12, .inl (fun _ => 0))), ((aa4 9), .inl ((kk4 7), 360, .inl (fun _ => 0))), ((aa4 10), .inl ((kk4 8), 27, .inl (fun _ => 0))), ((aa4 11), .inl ((kk4 9), 27, .inl (fun _ => 0))), ((aa4 12), .inl ((kk4 10), 3, .inl (fun _ => 0))), ((aa4 13), .inl ((kk4 11), 8, .inl (fun _ => 0))), ((aa4 14), .inl ((kk4 12), 64, .inl (fun _ => 0))), (h2, .inr (12, fM v0M))] := hD
  refine W.widen (k := 17) (n := 806) (by decide +kernel) (by decide +kernel) ?_
  refine lv_dup hx hb dL_law_11 rfl ?_
  have hPc := hP.sub (ws' := [(h2, .inr (12, fM v0M))]) [16] rfl
  have hDc := hD.sub (ws' := [(h2, .inr (12, fM v0M))]) [16] (by decide) rfl
  have hKc := hK.sub (tys' := []) [] rfl
  have hFc := va_free (wc := [(h2, .inr (12, fM v0M))]) hD hS hA [16] rfl
  refine va_callv (va_runI (As := []) (rest := [.ref h2]) ⟨hx, hb, hml, hown, hts⟩ (c_X12_init l dC dI h2 H.size) (cwI 0 hts gw_12 rfl rfl rfl (hts (.initialized RX12) (by decide +kernel)) (hts (.methodLink RL 91 yX12_init) (by decide +kernel)) (hts (.instanceMethod yX12_init) (by decide +kernel)) rfl (by decide +kernel) ⟨by decide +kernel, by decide +kernel⟩) ⟨fun a U g mk q => by obtain ⟨q0, q1, qP, qK, qD⟩ := q; exact ⟨q0, q1, qP, va_K.moved (u := U) (U := U.calling g mk a) (Vm.Alike.refl U.vm) qK, qD⟩, fun U hU9 hW => ⟨rfl, by rw [hU9], by rw [hU9]; exact hPc, va_K.moved hW.alike hKc, hDc.weaken (fun _ _ _ _ => trivial)⟩⟩ rfl rfl hl.1 rfl (lv_room (Nat.le_of_ble_eq_true rfl)) dL_law_12 ⟨by decide +kernel, by decide +kernel⟩) hS (fun q _ h => hFc q h) hFc (fun u t H1 locs ht hvm hw hB hz1 hk1 hS => ?_)
  obtain ⟨av, kv⟩ := u
  obtain ⟨hP1, hK1, hD1⟩ := hB
  rw [ht] at hP1
  have hK1 := va_K.moved hvm.symm hK1
  obtain ⟨hP, hD⟩ := va_join (wr := [(q0, .inr (11, [.ref (aa4 0), .ref (aa4 1), .ref (aa4 3), .ref (aa4 14), .int 0, .null, .null, .null, .null, .null, .null])), ((aa4 0), .inl ((kk4 0), 5, .inl (fun _ => 0))), ((aa4 1), .inr (9, [.ref (aa4 2), .int 0, .int 0, .int (-1), .int 0, .int 0, .int 0, .long 0, .int 0])), ((aa4 2), .inl ((kk4 1), 64, .inl (fun _ => 0))), ((aa4 3), .inr (1, [.int 0, .int 0, .int 0, .int 0, .int 0, .int 0, .ref (aa4 4), .ref (aa4 5), .ref (aa4 6), .ref (aa4 7), .int 0, .ref (aa4 8), .ref (aa4 9), .ref (aa4 10), .ref (aa4 11), .ref (aa4 12), .ref (aa4 13)])), ((aa4 4), .inl ((kk4 2), 8, .inl (fun _ => 0))), ((aa4 5), .inl ((kk4 3), 8, .inl (fun _ => 0))), ((aa4 6), .inl ((kk4 4), 8, .inl (fun _ => 0))), ((aa4 7), .inl ((kk4 5), 12, .inl (fun _ => 0))), ((aa4 8), .inl ((kk4 6), 12, .inl (fun _ => 0))), ((aa4 9), .inl ((kk4 7), 360, .inl (fun _ => 0))), ((aa4 10), .inl ((kk4 8), 27, .inl (fun _ => 0))), ((aa4 11), .inl ((kk4 9), 27, .inl (fun _ => 0))), ((aa4 12), .inl ((kk4 10), 3, .inl (fun _ => 0))), ((aa4 13), .inl ((kk4 11), 8, .inl (fun _ => 0))), ((aa4 14), .inl ((kk4 12), 64, .inl (fun _ => 0)))]) (w1 := wX12 av kv h2) hP hD [16] [0, 1, 2, 3, 4, 5, 6, 7, 8, 9, 10, 11, 12, 13, 14, 15] rfl rfl (by decide) (by decide) hk1 hFc hP1 hD1
  have hK := hK.app hK1
  generalize H1 = H at hP hS ⊢
  have hP : va_P (dC, dI) vwCl ([(q0, .inr (11, [.ref (aa4 0), .ref (aa4 1), .ref (aa4 3), .ref (aa4 14), .int 0, .null, .null, .null, .null, .null, .null])), ((aa4 0), .inl ((kk4 0), 5, .inl (fun _ => 0))), ((aa4 1), .inr (9, [.ref (aa4 2), .int 0, .int 0, .int (-1), .int 0, .int 0, .int 0, .long 0, .int 0])), ((aa4 2), .inl ((kk4 1), 64, .inl (fun _ => 0))), ((aa4 3), .inr (1, [.int 0, .int 0, .int 0, .int 0, .int 0, .int 0, .ref (aa4 4), .ref (aa4 5), .ref (aa4 6), .ref (aa4 7), .int 0, .ref (aa4 8), .ref (aa4 9), .ref (aa4 10), .ref (aa4 11), .ref (aa4 12), .ref (aa4 13)])), ((aa4 4), .inl ((kk4 2), 8, .inl (fun _ => 0))), ((aa4 5), .inl ((kk4 3), 8, .inl (fun _ => 0))), ((aa4 6), .inl ((kk4 4), 8, .inl (fun _ => 0))), ((aa4 7), .inl ((kk4 5), 12, .inl (fun _ => 0))), ((aa4 8), .inl ((kk4 6), 12, .inl (fun _ => 0))), ((aa4 9), .inl ((kk4 7), 360, .inl (fun _ => 0))), ((aa4 10), .inl ((kk4 8), 27, .inl (fun _ => 0))), ((aa4 11), .inl ((kk4 9), 27, .inl (fun _ => 0))), ((aa4 12), .inl ((kk4 10), 3, .inl (fun _ => 0))), ((aa4 13), .inl ((kk4 11), 8, .inl (fun _ => 0))), ((aa4 14), .inl ((kk4 12), 64, .inl (fun _ => 0)))] ++ wX12 av kv h2) H := hP
  have hD : va_D A ([(q0, .inr (11, [.ref (aa4 0), .ref (aa4 1), .ref (aa4 3), .ref (aa4 14), .int 0, .null, .null, .null, .null, .null, .null])), ((aa4 0), .inl ((kk4 0), 5, .inl (fun _ => 0))), ((aa4 1), .inr (9, [.ref (aa4 2), .int 0, .int 0, .int (-1), .int 0, .int 0, .int 0, .long 0, .int 0])), ((aa4 2), .inl ((kk4 1), 64, .inl (fun _ => 0))), ((aa4 3), .inr (1, [.int 0, .int 0, .int 0, .int 0, .int 0, .int 0, .ref (aa4 4), .ref (aa4 5), .ref (aa4 6), .ref (aa4 7), .int 0, .ref (aa4 8), .ref (aa4 9), .ref (aa4 10), .ref (aa4 11), .ref (aa4 12), .ref (aa4 13)])), ((aa4 4), .inl ((kk4 2), 8, .inl (fun _ => 0))), ((aa4 5), .inl ((kk4 3), 8, .inl (fun _ => 0))), ((aa4 6), .inl ((kk4 4), 8, .inl (fun _ => 0))), ((aa4 7), .inl ((kk4 5), 12, .inl (fun _ => 0))), ((aa4 8), .inl ((kk4 6), 12, .inl (fun _ => 0))), ((aa4 9), .inl ((kk4 7), 360, .inl (fun _ => 0))), ((aa4 10), .inl ((kk4 8), 27, .inl (fun _ => 0))), ((aa4 11), .inl ((kk4 9), 27, .inl (fun _ => 0))), ((aa4 12), .inl ((kk4 10), 3, .inl (fun _ => 0))), ((aa4 13), .inl ((kk4 11), 8, .inl (fun _ => 0))), ((aa4 14), .inl ((kk4 12), 64, .inl (fun _ => 0)))] ++ wX12 av kv h2) := hD
  have hK : va_K (dC, dI) vwCl ([((kk4 0), .int), ((kk4 1), .byte), ((kk4 2), .int), ((kk4 3), .int), ((kk4 4), .boolean), ((kk4 5), .int), ((kk4 6), .int), ((kk4 7), .int), ((kk4 8), .int), ((kk4 9), .int), ((kk4 10), .boolean), ((kk4 11), .int), ((kk4 12), .byte)] ++ tX12 kv) s := hK
  refine W.widen (k := 124) (n := 181433) (by decide +kernel) (by decide +kernel) ?_
  refine lv_astore_n (lv' := [(2, .ref h2), (1, .ref q0), (0, .ref b)]) hx hb dL_law_15 rfl hl (by decide) rfl (fun ls hl => ?_)
  refine lv_iconst (v := 1) hx hb dL_law_16 (by decide) ?_
  refine va_newa (atype := .long) (ty := .long) (N' := 1) (a0 := (1, .inr (.inl (fun _ => 0)))) hx hb (hts (.arrayClass .long) (by decide +kernel)) rfl hK hP hD hS hA (fun _ => rfl) (by decide) (by decide) (by decide +kernel) (by decide +kernel) (by decide +kernel) dL_law_17 (fun o kO H hK hP hD hS => ?_)
  have hP : va_P (dC, dI) vwCl (([(q0, .inr (11, [.ref (aa4 0), .ref (aa4 1), .ref (aa4 3), .ref (aa4 14), .int 0, .null, .null, .null, .null, .null, .null])), ((aa4 0), .inl ((kk4 0), 5, .inl (fun _ => 0))), ((aa4 1), .inr (9, [.ref (aa4 2), .int 0, .int 0, .int (-1), .int 0, .int 0, .int 0, .long 0, .int 0])), ((aa4 2), .inl ((kk4 1), 64, .inl (fun _ => 0))), ((aa4 3), .inr (1, [.int 0, .int 0, .int 0, .int 0, .int 0, .int 0, .ref (aa4 4), .ref (aa4 5), .ref (aa4 6), .ref (aa4 7), .int 0, .ref (aa4 8), .ref (aa4 9), .ref (aa4 10), .ref (aa4 11), .ref (aa4 12), .ref (aa4 13)])), ((aa4 4), .inl ((kk4 2), 8, .inl (fun _ => 0))), ((aa4 5), .inl ((kk4 3), 8, .inl (fun _ => 0))), ((aa4 6), .inl ((kk4 4), 8, .inl (fun _ => 0))), ((aa4 7), .inl ((kk4 5), 12, .inl (fun _ => 0))), ((aa4 8), .inl ((kk4 6), 12, .inl (fun _ => 0))), ((aa4 9), .inl ((kk4 7), 360, .inl (fun _ => 0))), ((aa4 10), .inl ((kk4 8), 27, .inl (fun _ => 0))), ((aa4 11), .inl ((kk4 9), 27, .inl (fun _ => 0))), ((aa4 12), .inl ((kk4 10), 3, .inl (fun _ => 0))), ((aa4 13), .inl ((kk4 11), 8, .inl (fun _ => 0))), ((aa4 14), .inl ((kk4 12), 64, .inl (fun _ => 0)))] ++ wX12 av kv h2) ++ [(o, .inl (kO, 1, .inr (.inl (fun _ => 0))))]) H := hP
  have hD : va_D A (([(q0, .inr (11, [.ref (aa4 0), .ref (aa4 1), .ref (aa4 3), .ref (aa4 14), .int 0, .null, .null, .null, .null, .null, .null])), ((aa4 0), .inl ((kk4 0), 5, .inl (fun _ => 0))), ((aa4 1), .inr (9, [.ref (aa4 2), .int 0, .int 0, .int (-1), .int 0, .int 0, .int 0, .long 0, .int 0])), ((aa4 2), .inl ((kk4 1), 64, .inl (fun _ => 0))), ((aa4 3), .inr (1, [.int 0, .int 0, .int 0, .int 0, .int 0, .int 0, .ref (aa4 4), .ref (aa4 5), .ref (aa4 6), .ref (aa4 7), .int 0, .ref (aa4 8), .ref (aa4 9), .ref (aa4 10), .ref (aa4 11), .ref (aa4 12), .ref (aa4 13)])), ((aa4 4), .inl ((kk4 2), 8, .inl (fun _ => 0))), ((aa4 5), .inl ((kk4 3), 8, .inl (fun _ => 0))), ((aa4 6), .inl ((kk4 4), 8, .inl (fun _ => 0))), ((aa4 7), .inl ((kk4 5), 12, .inl (fun _ => 0))), ((aa4 8), .inl ((kk4 6), 12, .inl (fun _ => 0))), ((aa4 9), .inl ((kk4 7), 360, .inl (fun _ => 0))), ((aa4 10), .inl ((kk4 8), 27, .inl (fun _ => 0))), ((aa4 11), .inl ((kk4 9), 27, .inl (fun _ => 0))), ((aa4 12), .inl ((kk4 10), 3, .inl (fun _ => 0))), ((aa4 13), .inl ((kk4 11), 8, .inl (fun _ => 0))), ((aa4 14), .inl ((kk4 12), 64, .inl (fun _ => 0)))] ++ wX12 av kv h2) ++ [(o, .inl (kO, 1, .inr (.inl (fun _ => 0))))]) := hD
  have hK : va_K (dC, dI) vwCl (([((kk4 0), .int), ((kk4 1), .byte), ((kk4 2), .int), ((kk4 3), .int), ((kk4 4), .boolean), ((kk4 5), .int), ((kk4 6), .int), ((kk4 7), .int), ((kk4 8), .int), ((kk4 9), .int), ((kk4 10), .boolean), ((kk4 11), .int), ((kk4 12), .byte)] ++ tX12 kv) ++ [(kO, .long)]) s := hK
  refine W.widen (k := 125) (n := 181434) (by decide +kernel) (by decide +kernel) ?_
  refine lv_astore_n (lv' := [(3, .ref o), (2, .ref h2), (1, .ref q0), (0, .ref b)]) hx hb dL_law_19 rfl hl (by decide) rfl (fun ls hl => ?_)
  refine lv_iconst (v := 0) hx hb dL_law_20 (by decide) ?_
  refine lv_istore (lv' := [(4, .int 0), (3, .ref o), (2, .ref h2), (1, .ref q0), (0, .ref b)]) hx hb dL_law_21 hl (by decide) rfl (fun ls hl => ?_)
  refine lv_iload hx hb dL_law_23 (lv_at hl 0 rfl) ?_
  refine lv_aload_n hx hb dL_law_25 rfl (lv_at hl 4 rfl) ?_
  refine va_slen hx hb hX hbl hbA hS dL_law_26 ?_
  refine lv_bipush (v := 6) hx hb dL_law_27 (by decide) ?_
  refine lv_isub hx hb dL_law_29 ?_
  rcases (show L = 6 ∨ L < 6 by omega) with hL6 | hL6
  · subst hL6
    refine lv_icmp_gt (tgt := 2137) hx hb dL_law_30 (by decide) (fun c9 => absurd c9 (by decide)) (fun _ => ?_)
    refine lv_aload_n hx hb dL_law_33 rfl (lv_at hl 4 rfl) ?_
    refine lv_iload hx hb dL_law_34 (lv_at hl 0 rfl) ?_
    refine va_sld hx hb hX hbl hbA hS (show ¬ ((0 : Int32) < 0 ∨ 6 ≤ (0 : Int32).toNatClampNeg) by decide) dL_law_36 ?_
    refine lv_topi (fun y1 hy1 => ?_)
    obtain rfl : (xs 0) = y1 := (hy1.trans (rfl)).symm
    refine lv_bipush (v := 63) hx hb dL_law_37 (by decide) ?_
    refine lv_iand hx hb dL_law_39 ?_
    by_cases s_0 : ((xs 0) &&& 63) = 0
    · refine lv_tableIn (off := 172) (tgt := 212) hx hb dL_law_40 (by rw [s_0]; decide) (by rw [s_0]; decide) (by rw [s_0]; decide) (by decide) ?_
      exact lc_0 l hst C0 hA hA2 X0 dC dI (a := aa4) (k := kk4) (av := av) (kv := kv) (hK.sub [0, 90, 120] rfl) (hP.sub [0, 1, 16, 94, 124] rfl) (hD.sub [0, 1, 16, 94, 124] (by decide) rfl) hS (lv_sub hl [0, 1, 2, 3, 4] rfl)
    · skip
      by_cases s_1 : ((xs 0) &&& 63) = 1
      · refine lv_tableIn (off := 243) (tgt := 283) hx hb dL_law_40 (by rw [s_1]; decide) (by rw [s_1]; decide) (by rw [s_1]; decide) (by decide) ?_
        exact lc_1 l hst C0 hA hA2 X0 dC dI (a := aa4) (k := kk4) (av := av) (kv := kv) (hK.sub [1, 0, 22, 90, 120] rfl) (hP.sub [0, 2, 3, 1, 16, 26, 94, 124] rfl) (hD.sub [0, 2, 3, 1, 16, 26, 94, 124] (by decide) rfl) hS (lv_sub hl [0, 1, 2, 3, 4] rfl)
      · skip
        by_cases s_2 : ((xs 0) &&& 63) = 2
        · refine lv_tableIn (off := 268) (tgt := 308) hx hb dL_law_40 (by rw [s_2]; decide) (by rw [s_2]; decide) (by rw [s_2]; decide) (by decide) ?_
          exact lc_2 l hst C0 hA hA2 X0 dC dI (a := aa4) (k := kk4) (av := av) (kv := kv) (hK.sub [120] rfl) (hP.sub [0, 2, 16, 124] rfl) (hD.sub [0, 2, 16, 124] (by decide) rfl) hS (lv_sub hl [0, 1, 2, 3, 4] rfl)
        · skip
          by_cases s_3 : ((xs 0) &&& 63) = 3
          · refine lv_tableIn (off := 279) (tgt := 319) hx hb dL_law_40 (by rw [s_3]; decide) (by rw [s_3]; decide) (by rw [s_3]; decide) (by decide) ?_
            exact lc_3 l hst C0 hA hA2 X0 dC dI (a := aa4) (k := kk4) (av := av) (kv := kv) (hK.sub [120] rfl) (hP.sub [0, 2, 4, 16, 124] rfl) (hD.sub [0, 2, 4, 16, 124] (by decide) rfl) hS (lv_sub hl [0, 1, 2, 3, 4] rfl)
          · skip
            by_cases s_4 : ((xs 0) &&& 63) = 4
            · refine lv_tableIn (off := 323) (tgt := 363) hx hb dL_law_40 (by rw [s_4]; decide) (by rw [s_4]; decide) (by rw [s_4]; decide) (by decide) ?_
              exact lc_4 l hst C0 hA hA2 X0 dC dI (a := aa4) (k := kk4) (av := av) (kv := kv) (hK.sub [120] rfl) (hP.sub [0, 2, 16, 124] rfl) (hD.sub [0, 2, 16, 124] (by decide) rfl) hS (lv_sub hl [0, 1, 2, 3, 4] rfl)
            · skip
              by_cases s_5 : ((xs 0) &&& 63) = 5
              · refine lv_tableIn (off := 348) (tgt := 388) hx hb dL_law_40 (by rw [s_5]; decide) (by rw [s_5]; decide) (by rw [s_5]; decide) (by decide) ?_
                exact lc_5 l hst C0 hA hA2 X0 dC dI (a := aa4) (k := kk4) (av := av) (kv := kv) (hK.sub [120] rfl) (hP.sub [0, 4, 16, 124] rfl) (hD.sub [0, 4, 16, 124] (by decide) rfl) hS (lv_sub hl [0, 1, 2, 3, 4] rfl)
              · skip
                by_cases s_6 : ((xs 0) &&& 63) = 6
                · refine lv_tableIn (off := 416) (tgt := 456) hx hb dL_law_40 (by rw [s_6]; decide) (by rw [s_6]; decide) (by rw [s_6]; decide) (by decide) ?_
                  exact lc_6 l hst C0 hA hA2 X0 dC dI (a := aa4) (k := kk4) (av := av) (kv := kv) (hK.sub [120] rfl) (hP.sub [0, 4, 16, 124] rfl) (hD.sub [0, 4, 16, 124] (by decide) rfl) hS (lv_sub hl [0, 1, 2, 3, 4] rfl)
                · skip
                  by_cases s_7 : ((xs 0) &&& 63) = 7
                  · refine lv_tableIn (off := 496) (tgt := 536) hx hb dL_law_40 (by rw [s_7]; decide) (by rw [s_7]; decide) (by rw [s_7]; decide) (by decide) ?_
                    exact lc_7 l hst C0 hA hA2 X0 dC dI (a := aa4) (k := kk4) (av := av) (kv := kv) (hK.sub [120] rfl) (hP.sub [0, 4, 16, 124] rfl) (hD.sub [0, 4, 16, 124] (by decide) rfl) hS (lv_sub hl [0, 1, 2, 3, 4] rfl)
                  · skip
                    by_cases s_8 : ((xs 0) &&& 63) = 8
                    · refine lv_tableIn (off := 592) (tgt := 632) hx hb dL_law_40 (by rw [s_8]; decide) (by rw [s_8]; decide) (by rw [s_8]; decide) (by decide) ?_
                      exact lc_8 l hst C0 hA hA2 X0 dC dI (a := aa4) (k := kk4) (av := av) (kv := kv) (hK.sub [120] rfl) (hP.sub [0, 4, 16, 124] rfl) (hD.sub [0, 4, 16, 124] (by decide) rfl) hS (lv_sub hl [0, 1, 2, 3, 4] rfl)
                    · skip
                      by_cases s_9 : ((xs 0) &&& 63) = 9
                      · refine lv_tableIn (off := 636) (tgt := 676) hx hb dL_law_40 (by rw [s_9]; decide) (by rw [s_9]; decide) (by rw [s_9]; decide) (by decide) ?_
                        exact lc_9 l hst C0 hA hA2 X0 dC dI (a := aa4) (k := kk4) (av := av) (kv := kv) (hK.sub [120] rfl) (hP.sub [0, 4, 16, 124] rfl) (hD.sub [0, 4, 16, 124] (by decide) rfl) hS (lv_sub hl [0, 1, 2, 3, 4] rfl)
                      · skip
                        by_cases s_10 : ((xs 0) &&& 63) = 10
                        · refine lv_tableIn (off := 715) (tgt := 755) hx hb dL_law_40 (by rw [s_10]; decide) (by rw [s_10]; decide) (by rw [s_10]; decide) (by decide) ?_
                          exact lc_10 l hst C0 hA hA2 X0 dC dI (a := aa4) (k := kk4) (av := av) (kv := kv) (hK.sub [120] rfl) (hP.sub [0, 4, 16, 124] rfl) (hD.sub [0, 4, 16, 124] (by decide) rfl) hS (lv_sub hl [0, 1, 2, 3, 4] rfl)
                        · skip
                          by_cases s_11 : ((xs 0) &&& 63) = 11
                          · refine lv_tableIn (off := 771) (tgt := 811) hx hb dL_law_40 (by rw [s_11]; decide) (by rw [s_11]; decide) (by rw [s_11]; decide) (by decide) ?_
                            exact lc_11 l hst C0 hA hA2 X0 dC dI (a := aa4) (k := kk4) (av := av) (kv := kv) (hK.sub [120] rfl) (hP.sub [0, 4, 16, 124] rfl) (hD.sub [0, 4, 16, 124] (by decide) rfl) hS (lv_sub hl [0, 1, 2, 3, 4] rfl)
                          · skip
                            by_cases s_12 : ((xs 0) &&& 63) = 12
                            · refine lv_tableIn (off := 827) (tgt := 867) hx hb dL_law_40 (by rw [s_12]; decide) (by rw [s_12]; decide) (by rw [s_12]; decide) (by decide) ?_
                              exact lc_12 l hst C0 hA hA2 X0 dC dI (a := aa4) (k := kk4) (av := av) (kv := kv) (hK.sub [120] rfl) (hP.sub [0, 4, 16, 124] rfl) (hD.sub [0, 4, 16, 124] (by decide) rfl) hS (lv_sub hl [0, 1, 2, 3, 4] rfl)
                            · skip
                              by_cases s_13 : ((xs 0) &&& 63) = 13
                              · refine lv_tableIn (off := 883) (tgt := 923) hx hb dL_law_40 (by rw [s_13]; decide) (by rw [s_13]; decide) (by rw [s_13]; decide) (by decide) ?_
                                exact lc_13 l hst C0 hA hA2 X0 dC dI (a := aa4) (k := kk4) (av := av) (kv := kv) (hK.sub [120] rfl) (hP.sub [0, 4, 16, 124] rfl) (hD.sub [0, 4, 16, 124] (by decide) rfl) hS (lv_sub hl [0, 1, 2, 3, 4] rfl)
                              · skip
                                by_cases s_14 : ((xs 0) &&& 63) = 14
                                · refine lv_tableIn (off := 927) (tgt := 967) hx hb dL_law_40 (by rw [s_14]; decide) (by rw [s_14]; decide) (by rw [s_14]; decide) (by decide) ?_
                                  exact lc_14 l hst C0 hA hA2 X0 dC dI (a := aa4) (k := kk4) (av := av) (kv := kv) (hK.sub [120] rfl) (hP.sub [0, 4, 16, 124] rfl) (hD.sub [0, 4, 16, 124] (by decide) rfl) hS (lv_sub hl [0, 1, 2, 3, 4] rfl)
                                · skip
                                  by_cases s_15 : ((xs 0) &&& 63) = 15
                                  · refine lv_tableIn (off := 995) (tgt := 1035) hx hb dL_law_40 (by rw [s_15]; decide) (by rw [s_15]; decide) (by rw [s_15]; decide) (by decide) ?_
                                    exact lc_15 l hst C0 hA hA2 X0 dC dI (a := aa4) (k := kk4) (av := av) (kv := kv) (hK.sub [120] rfl) (hP.sub [0, 4, 16, 124] rfl) (hD.sub [0, 4, 16, 124] (by decide) rfl) hS (lv_sub hl [0, 1, 2, 3, 4] rfl)
                                  · skip
                                    by_cases s_16 : ((xs 0) &&& 63) = 16
                                    · refine lv_tableIn (off := 1039) (tgt := 1079) hx hb dL_law_40 (by rw [s_16]; decide) (by rw [s_16]; decide) (by rw [s_16]; decide) (by decide) ?_
                                      exact lc_16 l hst C0 hA hA2 X0 dC dI (a := aa4) (k := kk4) (av := av) (kv := kv) (hK.sub [120] rfl) (hP.sub [0, 16, 124] rfl) (hD.sub [0, 16, 124] (by decide) rfl) hS (lv_sub hl [0, 1, 2, 3, 4] rfl)
                                    · skip
                                      by_cases s_17 : ((xs 0) &&& 63) = 17
                                      · refine lv_tableIn (off := 1076) (tgt := 1116) hx hb dL_law_40 (by rw [s_17]; decide) (by rw [s_17]; decide) (by rw [s_17]; decide) (by decide) ?_
                                        exact lc_17 l hst C0 hA hA2 X0 dC dI (a := aa4) (k := kk4) (av := av) (kv := kv) (hK.sub [120] rfl) (hP.sub [0, 16, 124] rfl) (hD.sub [0, 16, 124] (by decide) rfl) hS (lv_sub hl [0, 1, 2, 3, 4] rfl)
                                      · skip
                                        by_cases s_18 : ((xs 0) &&& 63) = 18
                                        · refine lv_tableIn (off := 1132) (tgt := 1172) hx hb dL_law_40 (by rw [s_18]; decide) (by rw [s_18]; decide) (by rw [s_18]; decide) (by decide) ?_
                                          exact lc_18 l hst C0 hA hA2 X0 dC dI (a := aa4) (k := kk4) (av := av) (kv := kv) (hK.sub [120] rfl) (hP.sub [0, 16, 124] rfl) (hD.sub [0, 16, 124] (by decide) rfl) hS (lv_sub hl [0, 1, 2, 3, 4] rfl)
                                        · skip
                                          by_cases s_19 : ((xs 0) &&& 63) = 19
                                          · refine lv_tableIn (off := 1157) (tgt := 1197) hx hb dL_law_40 (by rw [s_19]; decide) (by rw [s_19]; decide) (by rw [s_19]; decide) (by decide) ?_
                                            exact lc_19 l hst C0 hA hA2 X0 dC dI (a := aa4) (k := kk4) (av := av) (kv := kv) (hK.sub [120] rfl) (hP.sub [0, 2, 4, 16, 124] rfl) (hD.sub [0, 2, 4, 16, 124] (by decide) rfl) hS (lv_sub hl [0, 1, 2, 3, 4] rfl)
                                          · skip
                                            by_cases s_20 : ((xs 0) &&& 63) = 20
                                            · refine lv_tableIn (off := 1182) (tgt := 1222) hx hb dL_law_40 (by rw [s_20]; decide) (by rw [s_20]; decide) (by rw [s_20]; decide) (by decide) ?_
                                              exact lc_20 l hst C0 hA hA2 X0 dC dI (a := aa4) (k := kk4) (av := av) (kv := kv) (hK.sub [91, 120] rfl) (hP.sub [0, 16, 95, 124] rfl) (hD.sub [0, 16, 95, 124] (by decide) rfl) hS (lv_sub hl [0, 1, 2, 3, 4] rfl)
                                            · skip
                                              by_cases s_21 : ((xs 0) &&& 63) = 21
                                              · refine lv_tableIn (off := 1238) (tgt := 1278) hx hb dL_law_40 (by rw [s_21]; decide) (by rw [s_21]; decide) (by rw [s_21]; decide) (by decide) ?_
                                                exact lc_21 l hst C0 hA hA2 X0 dC dI (a := aa4) (k := kk4) (av := av) (kv := kv) (hK.sub [120] rfl) (hP.sub [0, 16, 124] rfl) (hD.sub [0, 16, 124] (by decide) rfl) hS (lv_sub hl [0, 1, 2, 3, 4] rfl)
                                              · skip
                                                by_cases s_22 : ((xs 0) &&& 63) = 22
                                                · refine lv_tableIn (off := 1330) (tgt := 1370) hx hb dL_law_40 (by rw [s_22]; decide) (by rw [s_22]; decide) (by rw [s_22]; decide) (by decide) ?_
                                                  exact lc_22 l hst C0 hA hA2 X0 dC dI (a := aa4) (k := kk4) (av := av) (kv := kv) (hK.sub [98, 120] rfl) (hP.sub [0, 16, 102, 124] rfl) (hD.sub [0, 16, 102, 124] (by decide) rfl) hS (lv_sub hl [0, 1, 2, 3, 4] rfl)
                                                · skip
                                                  by_cases s_23 : ((xs 0) &&& 63) = 23
                                                  · refine lv_tableIn (off := 1367) (tgt := 1407) hx hb dL_law_40 (by rw [s_23]; decide) (by rw [s_23]; decide) (by rw [s_23]; decide) (by decide) ?_
                                                    exact lc_23 l hst C0 hA hA2 X0 dC dI (a := aa4) (k := kk4) (av := av) (kv := kv) (hK.sub [120] rfl) (hP.sub [0, 16, 124] rfl) (hD.sub [0, 16, 124] (by decide) rfl) hS (lv_sub hl [0, 1, 2, 3, 4] rfl)
                                                  · skip
                                                    by_cases s_24 : ((xs 0) &&& 63) = 24
                                                    · refine lv_tableIn (off := 1392) (tgt := 1432) hx hb dL_law_40 (by rw [s_24]; decide) (by rw [s_24]; decide) (by rw [s_24]; decide) (by decide) ?_
                                                      exact lc_24 l hst C0 hA hA2 X0 dC dI (a := aa4) (k := kk4) (av := av) (kv := kv) (hK.sub [120] rfl) (hP.sub [0, 16, 124] rfl) (hD.sub [0, 16, 124] (by decide) rfl) hS (lv_sub hl [0, 1, 2, 3, 4] rfl)
                                                    · skip
                                                      by_cases s_25 : ((xs 0) &&& 63) = 25
                                                      · refine lv_tableIn (off := 1405) (tgt := 1445) hx hb dL_law_40 (by rw [s_25]; decide) (by rw [s_25]; decide) (by rw [s_25]; decide) (by decide) ?_
                                                        exact lc_25 l hst C0 hA hA2 X0 dC dI (a := aa4) (k := kk4) (av := av) (kv := kv) (hK.sub [120] rfl) (hP.sub [0, 16, 124] rfl) (hD.sub [0, 16, 124] (by decide) rfl) hS (lv_sub hl [0, 1, 2, 3, 4] rfl)
                                                      · skip
                                                        by_cases s_26 : ((xs 0) &&& 63) = 26
                                                        · refine lv_tableIn (off := 1442) (tgt := 1482) hx hb dL_law_40 (by rw [s_26]; decide) (by rw [s_26]; decide) (by rw [s_26]; decide) (by decide) ?_
                                                          exact lc_26 l hst C0 hA hA2 X0 dC dI (a := aa4) (k := kk4) (av := av) (kv := kv) (hK.sub [120] rfl) (hP.sub [0, 16, 124] rfl) (hD.sub [0, 16, 124] (by decide) rfl) hS (lv_sub hl [0, 1, 2, 3, 4] rfl)
                                                        · skip
                                                          by_cases s_27 : ((xs 0) &&& 63) = 27
                                                          · refine lv_tableIn (off := 1479) (tgt := 1519) hx hb dL_law_40 (by rw [s_27]; decide) (by rw [s_27]; decide) (by rw [s_27]; decide) (by decide) ?_
                                                            exact lc_27 l hst C0 hA hA2 X0 dC dI (a := aa4) (k := kk4) (av := av) (kv := kv) (hK.sub [120] rfl) (hP.sub [0, 16, 124] rfl) (hD.sub [0, 16, 124] (by decide) rfl) hS (lv_sub hl [0, 1, 2, 3, 4] rfl)
                                                          · skip
                                                            by_cases s_28 : ((xs 0) &&& 63) = 28
                                                            · refine lv_tableIn (off := 1490) (tgt := 1530) hx hb dL_law_40 (by rw [s_28]; decide) (by rw [s_28]; decide) (by rw [s_28]; decide) (by decide) ?_
                                                              exact lc_28 l hst C0 hA hA2 X0 dC dI (a := aa4) (k := kk4) (av := av) (kv := kv) (hK.sub [105, 106, 107, 120] rfl) (hP.sub [0, 16, 109, 110, 111, 124] rfl) (hD.sub [0, 16, 109, 110, 111, 124] (by decide) rfl) hS (lv_sub hl [0, 1, 2, 3, 4] rfl)
                                                            · skip
                                                              by_cases s_29 : ((xs 0) &&& 63) = 29
                                                              · refine lv_tableIn (off := 1570) (tgt := 1610) hx hb dL_law_40 (by rw [s_29]; decide) (by rw [s_29]; decide) (by rw [s_29]; decide) (by decide) ?_
                                                                exact lc_29 l hst C0 hA hA2 X0 dC dI (a := aa4) (k := kk4) (av := av) (kv := kv) (hK.sub [120] rfl) (hP.sub [0, 16, 124] rfl) (hD.sub [0, 16, 124] (by decide) rfl) hS (lv_sub hl [0, 1, 2, 3, 4] rfl)
                                                              · skip
                                                                by_cases s_30 : ((xs 0) &&& 63) = 30
                                                                · refine lv_tableIn (off := 1583) (tgt := 1623) hx hb dL_law_40 (by rw [s_30]; decide) (by rw [s_30]; decide) (by rw [s_30]; decide) (by decide) ?_
                                                                  exact lc_30 l hst C0 hA hA2 X0 dC dI (a := aa4) (k := kk4) (av := av) (kv := kv) (hK.sub [120] rfl) (hP.sub [0, 16, 124] rfl) (hD.sub [0, 16, 124] (by decide) rfl) hS (lv_sub hl [0, 1, 2, 3, 4] rfl)
                                                                · skip
                                                                  by_cases s_31 : ((xs 0) &&& 63) = 31
                                                                  · refine lv_tableIn (off := 1608) (tgt := 1648) hx hb dL_law_40 (by rw [s_31]; decide) (by rw [s_31]; decide) (by rw [s_31]; decide) (by decide) ?_
                                                                    exact lc_31 l hst C0 hA hA2 X0 dC dI (a := aa4) (k := kk4) (av := av) (kv := kv) (hK.sub [108, 109, 110, 111, 120] rfl) (hP.sub [0, 16, 112, 113, 114, 115, 124] rfl) (hD.sub [0, 16, 112, 113, 114, 115, 124] (by decide) rfl) hS (lv_sub hl [0, 1, 2, 3, 4] rfl)
                                                                  · skip
                                                                    by_cases s_32 : ((xs 0) &&& 63) = 32
                                                                    · refine lv_tableIn (off := 1700) (tgt := 1740) hx hb dL_law_40 (by rw [s_32]; decide) (by rw [s_32]; decide) (by rw [s_32]; decide) (by decide) ?_
                                                                      exact lc_32 l hst C0 hA hA2 X0 dC dI (a := aa4) (k := kk4) (av := av) (kv := kv) (hK.sub [120] rfl) (hP.sub [0, 16, 124] rfl) (hD.sub [0, 16, 124] (by decide) rfl) hS (lv_sub hl [0, 1, 2, 3, 4] rfl)
                                                                    · skip
                                                                      by_cases s_33 : ((xs 0) &&& 63) = 33
                                                                      · refine lv_tableIn (off := 1713) (tgt := 1753) hx hb dL_law_40 (by rw [s_33]; decide) (by rw [s_33]; decide) (by rw [s_33]; decide) (by decide) ?_
                                                                        exact lc_33 l hst C0 hA hA2 X0 dC dI (a := aa4) (k := kk4) (av := av) (kv := kv) (hK.sub [113, 120] rfl) (hP.sub [0, 16, 117, 124] rfl) (hD.sub [0, 16, 117, 124] (by decide) rfl) hS (lv_sub hl [0, 1, 2, 3, 4] rfl)
                                                                      · skip
                                                                        by_cases s_34 : ((xs 0) &&& 63) = 34
                                                                        · refine lv_tableIn (off := 1781) (tgt := 1821) hx hb dL_law_40 (by rw [s_34]; decide) (by rw [s_34]; decide) (by rw [s_34]; decide) (by decide) ?_
                                                                          exact lc_34 l hst C0 hA hA2 X0 dC dI (a := aa4) (k := kk4) (av := av) (kv := kv) (hK.sub [113, 120] rfl) (hP.sub [0, 16, 117, 124] rfl) (hD.sub [0, 16, 117, 124] (by decide) rfl) hS (lv_sub hl [0, 1, 2, 3, 4] rfl)
                                                                        · skip
                                                                          by_cases s_35 : ((xs 0) &&& 63) = 35
                                                                          · refine lv_tableIn (off := 1849) (tgt := 1889) hx hb dL_law_40 (by rw [s_35]; decide) (by rw [s_35]; decide) (by rw [s_35]; decide) (by decide) ?_
                                                                            exact lc_35 l hst C0 hA hA2 X0 dC dI (a := aa4) (k := kk4) (av := av) (kv := kv) (hK.sub [113, 120] rfl) (hP.sub [0, 16, 117, 124] rfl) (hD.sub [0, 16, 117, 124] (by decide) rfl) hS (lv_sub hl [0, 1, 2, 3, 4] rfl)
                                                                          · skip
                                                                            by_cases s_36 : ((xs 0) &&& 63) = 36
                                                                            · refine lv_tableIn (off := 1929) (tgt := 1969) hx hb dL_law_40 (by rw [s_36]; decide) (by rw [s_36]; decide) (by rw [s_36]; decide) (by decide) ?_
                                                                              exact lc_36 l hst C0 hA hA2 X0 dC dI (a := aa4) (k := kk4) (av := av) (kv := kv) (hK.sub [115, 120] rfl) (hP.sub [0, 16, 119, 124] rfl) (hD.sub [0, 16, 119, 124] (by decide) rfl) hS (lv_sub hl [0, 1, 2, 3, 4] rfl)
                                                                            · skip
                                                                              by_cases s_37 : ((xs 0) &&& 63) = 37
                                                                              · refine lv_tableIn (off := 2009) (tgt := 2049) hx hb dL_law_40 (by rw [s_37]; decide) (by rw [s_37]; decide) (by rw [s_37]; decide) (by decide) ?_
                                                                                exact lc_37 l hst C0 hA hA2 X0 dC dI (a := aa4) (k := kk4) (av := av) (kv := kv) (hK.sub [116, 120] rfl) (hP.sub [0, 16, 120, 124] rfl) (hD.sub [0, 16, 120, 124] (by decide) rfl) hS (lv_sub hl [0, 1, 2, 3, 4] rfl)
                                                                              · skip
                                                                                by_cases s_38 : ((xs 0) &&& 63) = 38
                                                                                · refine lv_tableIn (off := 2023) (tgt := 2063) hx hb dL_law_40 (by rw [s_38]; decide) (by rw [s_38]; decide) (by rw [s_38]; decide) (by decide) ?_
                                                                                  exact lc_38 l hst C0 hA hA2 X0 dC dI (a := aa4) (k := kk4) (av := av) (kv := kv) (hK.sub [117, 118, 120] rfl) (hP.sub [0, 16, 121, 122, 124] rfl) (hD.sub [0, 16, 121, 122, 124] (by decide) rfl) hS (lv_sub hl [0, 1, 2, 3, 4] rfl)
                                                                                · skip
                                                                                  refine lv_tableOut (tgt := 2131) hx hb dL_law_40 (by have := lv_neT s_0 (show Int32.toInt 0 = 0 by decide); have := lv_neT s_1 (show Int32.toInt 1 = 1 by decide); have := lv_neT s_2 (show Int32.toInt 2 = 2 by decide); have := lv_neT s_3 (show Int32.toInt 3 = 3 by decide); have := lv_neT s_4 (show Int32.toInt 4 = 4 by decide); have := lv_neT s_5 (show Int32.toInt 5 = 5 by decide); have := lv_neT s_6 (show Int32.toInt 6 = 6 by decide); have := lv_neT s_7 (show Int32.toInt 7 = 7 by decide); have := lv_neT s_8 (show Int32.toInt 8 = 8 by decide); have := lv_neT s_9 (show Int32.toInt 9 = 9 by decide); have := lv_neT s_10 (show Int32.toInt 10 = 10 by decide); have := lv_neT s_11 (show Int32.toInt 11 = 11 by decide); have := lv_neT s_12 (show Int32.toInt 12 = 12 by decide); have := lv_neT s_13 (show Int32.toInt 13 = 13 by decide); have := lv_neT s_14 (show Int32.toInt 14 = 14 by decide); have := lv_neT s_15 (show Int32.toInt 15 = 15 by decide); have := lv_neT s_16 (show Int32.toInt 16 = 16 by decide); have := lv_neT s_17 (show Int32.toInt 17 = 17 by decide); have := lv_neT s_18 (show Int32.toInt 18 = 18 by decide); have := lv_neT s_19 (show Int32.toInt 19 = 19 by decide); have := lv_neT s_20 (show Int32.toInt 20 = 20 by decide); have := lv_neT s_21 (show Int32.toInt 21 = 21 by decide); have := lv_neT s_22 (show Int32.toInt 22 = 22 by decide); have := lv_neT s_23 (show Int32.toInt 23 = 23 by decide); have := lv_neT s_24 (show Int32.toInt 24 = 24 by decide); have := lv_neT s_25 (show Int32.toInt 25 = 25 by decide); have := lv_neT s_26 (show Int32.toInt 26 = 26 by decide); have := lv_neT s_27 (show Int32.toInt 27 = 27 by decide); have := lv_neT s_28 (show Int32.toInt 28 = 28 by decide); have := lv_neT s_29 (show Int32.toInt 29 = 29 by decide); have := lv_neT s_30 (show Int32.toInt 30 = 30 by decide); have := lv_neT s_31 (show Int32.toInt 31 = 31 by decide); have := lv_neT s_32 (show Int32.toInt 32 = 32 by decide); have := lv_neT s_33 (show Int32.toInt 33 = 33 by decide); have := lv_neT s_34 (show Int32.toInt 34 = 34 by decide); have := lv_neT s_35 (show Int32.toInt 35 = 35 by decide); have := lv_neT s_36 (show Int32.toInt 36 = 36 by decide); have := lv_neT s_37 (show Int32.toInt 37 = 37 by decide); have := lv_neT s_38 (show Int32.toInt 38 = 38 by decide); omega) (by decide) ?_
                                                                                  refine lv_iinc (v := 6) (lv' := [(4, .int 6), (3, .ref o), (2, .ref h2), (1, .ref q0), (0, .ref b)]) hx hb dL_law_2131 hl (k := 0) rfl (by decide) (by decide) rfl (fun ls hl => ?_)
                                                                                  refine lv_goto (tgt := 23) hx hb dL_law_2134 (by decide) ?_
                                                                                  refine lv_iload hx hb dL_law_23 (lv_at hl 0 rfl) ?_
                                                                                  refine lv_aload_n hx hb dL_law_25 rfl (lv_at hl 4 rfl) ?_
                                                                                  refine va_slen hx hb hX hbl hbA hS dL_law_26 ?_
                                                                                  refine lv_topi (fun y2 hy2 => ?_)
                                                                                  obtain rfl : 6 = y2 := (hy2.trans (rfl)).symm
                                                                                  refine lv_bipush (v := 6) hx hb dL_law_27 (by decide) ?_
                                                                                  refine lv_isub hx hb dL_law_29 ?_
                                                                                  refine lv_topi (fun y3 hy3 => ?_)
                                                                                  obtain rfl : 0 = y3 := (hy3.trans (by decide)).symm
                                                                                  refine lv_icmp_gt (tgt := 2137) hx hb dL_law_30 (by decide) (fun _ => ?_) (fun c9 => absurd (by decide) c9)
                                                                                  refine lv_iconst (v := 1) hx hb dL_law_2137 (by decide) ?_
                                                                                  refine W.widen (k := 600002) (n := 7302232) (by decide +kernel) (by decide +kernel) ?_
                                                                                  refine va_forget (fun q hq => hA2 _ (hS.2.2 q hq)) ?_
                                                                                  exact lw_ret hx hb hr hlocks dL_law_2138
  · refine lv_icmp_gt (tgt := 2137) hx hb dL_law_30 (by decide) (fun _ => ?_) (fun c9 => absurd (show nI L - nI 6 < 0 from pk_sneg (by omega) hL6) c9)
    refine lv_iconst (v := 1) hx hb dL_law_2137 (by decide) ?_
    refine W.widen (k := 600002) (n := 7302232) (by decide +kernel) (by decide +kernel) ?_
    refine va_forget (fun q hq => hA2 _ (hS.2.2 q hq)) ?_
    exact lw_ret hx hb hr hlocks dL_law_2138

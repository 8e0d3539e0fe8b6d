def vi0 : Nat → Int32 := fun K => if K = 22 ∨ K = 24 ∨ K = 33 ∨ K = 145 then -1 else 0
set_option maxRecDepth 100000 in
theorem fM_start (a : Nat → Nat) : fM (vM a) = fM (vS a vi0 (fun _ => 0)) := rfl
theorem arrM_start : ∀ j, j < 107 → arrM j = (lenR j, match lngR j with
  | true => .inr (.inl (fun _ => 0))
  | false => .inl (fun _ => 0))
  | 0, _ => rfl
  | 1, _ => rfl
  | 2, _ => rfl
  | 3, _ => rfl
  | 4, _ => rfl
  | 5, _ => rfl
  | 6, _ => rfl
  | 7, _ => rfl
  | 8, _ => rfl
  | 9, _ => rfl
  | 10, _ => rfl
  | 11, _ => rfl
  | 12, _ => rfl
  | 13, _ => rfl
  | 14, _ => rfl
  | 15, _ => rfl
  | 16, _ => rfl
  | 17, _ => rfl
  | 18, _ => rfl
  | 19, _ => rfl
  | 20, _ => rfl
  | 21, _ => rfl
  | 22, _ => rfl
  | 23, _ => rfl
  | 24, _ => rfl
  | 25, _ => rfl
  | 26, _ => rfl
  | 27, _ => rfl
  | 28, _ => rfl
  | 29, _ => rfl
  | 30, _ => rfl
  | 31, _ => rfl
  | 32, _ => rfl
  | 33, _ => rfl
  | 34, _ => rfl
  | 35, _ => rfl
  | 36, _ => rfl
  | 37, _ => rfl
  | 38, _ => rfl
  | 39, _ => rfl
  | 40, _ => rfl
  | 41, _ => rfl
  | 42, _ => rfl
  | 43, _ => rfl
  | 44, _ => rfl
  | 45, _ => rfl
  | 46, _ => rfl
  | 47, _ => rfl
  | 48, _ => rfl
  | 49, _ => rfl
  | 50, _ => rfl
  | 51, _ => rfl
  | 52, _ => rfl
  | 53, _ => rfl
  | 54, _ => rfl
  | 55, _ => rfl
  | 56, _ => rfl
  | 57, _ => rfl
  | 58, _ => rfl
  | 59, _ => rfl
  | 60, _ => rfl
  | 61, _ => rfl
  | 62, _ => rfl
  | 63, _ => rfl
  | 64, _ => rfl
  | 65, _ => rfl
  | 66, _ => rfl
  | 67, _ => rfl
  | 68, _ => rfl
  | 69, _ => rfl
  | 70, _ => rfl
  | 71, _ => rfl
  | 72, _ => rfl
  | 73, _ => rfl
  | 74, _ => rfl
  | 75, _ => rfl
  | 76, _ => rfl
  | 77, _ => rfl
  | 78, _ => rfl
  | 79, _ => rfl
  | 80, _ => rfl
  | 81, _ => rfl
  | 82, _ => rfl
  | 83, _ => rfl
  | 84, _ => rfl
  | 85, _ => rfl
  | 86, _ => rfl
  | 87, _ => rfl
  | 88, _ => rfl
  | 89, _ => rfl
  | 90, _ => rfl
  | 91, _ => rfl
  | 92, _ => rfl
  | 93, _ => rfl
  | 94, _ => rfl
  | 95, _ => rfl
  | 96, _ => rfl
  | 97, _ => rfl
  | 98, _ => rfl
  | 99, _ => rfl
  | 100, _ => rfl
  | 101, _ => rfl
  | 102, _ => rfl
  | 103, _ => rfl
  | 104, _ => rfl
  | 105, _ => rfl
  | 106, _ => rfl
  | n + 107, h => absurd h (by omega)
theorem wX12_start (a : Nat → Nat) (k : Nat → ClassId) (h0 : Nat) : wX12 a k h0 = WR a k h0 vi0 (fun _ => 0) (fun _ _ => 0) (fun _ _ => 0) := by
  unfold wX12 WR aM
  rw [fM_start a]
  refine congrArg (List.cons _) (List.map_congr_left (fun j hj => ?_))
  unfold cellM cR
  rw [arrM_start j (List.mem_range.mp hj)]
  cases lngR j <;> rfl
theorem Bg_start : Bg (fun _ => 0) (fun _ => 0) := fun s _ => ⟨0, by decide, rfl, fun q hq => absurd hq (Nat.not_lt_zero q), fun h => absurd h (Nat.lt_irrefl 0), rfl, Or.inl ⟨rfl, rfl⟩⟩
theorem z_bd {lo hi : Int} (h1 : lo ≤ 0) (h2 : 0 ≤ hi) : lo ≤ (0 : Int32).toInt ∧ (0 : Int32).toInt ≤ hi := ⟨h1, h2⟩
theorem RefI_start (a : Nat → Nat) (k : Nat → ClassId) (h0 : Nat) : RefI k h0 (0, ntZ, clZ, vlZ) 0 (wX12 a k h0) := by
  refine ⟨a, vi0, fun _ => 0, fun _ _ => 0, fun _ _ => 0, fun _ => 0, 0, 0, 0, 0, 0, 0, 0, 0, 0, 0, 0, 0, ?_, rfl, cVal.z, rfl, wX12_start a k h0⟩
  refine InvR.of (x145 := -1) (x113 := 0) (x117 := 0) rfl rfl rfl rfl rfl rfl rfl rfl rfl rfl rfl rfl rfl rfl rfl rfl rfl rfl rfl rfl rfl rfl rfl rfl rfl rfl rfl rfl rfl rfl rfl rfl rfl rfl rfl rfl Bg_start ⟨by decide, by decide, by decide, by decide⟩ ⟨by decide, by decide, by decide, by decide⟩ ⟨by decide, by decide, by decide⟩ ⟨⟨fun _ _ => z_bd (by decide) (by decide), fun _ _ => z_bd (by decide) (by decide), fun _ _ => z_bd (by decide) (by decide), fun _ _ _ _ => z_bd (by decide) (by decide), fun _ h => absurd h (Nat.not_lt_zero _), fun _ _ h => absurd h (Nat.not_lt_zero _), fun _ _ => z_bd (by decide) (by decide)⟩, ⟨fun _ _ => z_bd (by decide) (by decide), fun _ _ _ _ => z_bd (by decide) (by decide)⟩, fun _ h => absurd h (Nat.not_lt_zero _), fun _ h => absurd h (Nat.not_lt_zero _)⟩ ⟨fun _ _ => ⟨0, 0, rfl, rfl, by decide⟩, fun _ _ => z_bd (by decide) (by decide)⟩ ⟨fun _ h => absurd h (Nat.not_lt_zero _), fun _ h => absurd h (Nat.not_lt_zero _), fun _ h => absurd h (Nat.not_lt_zero _), Or.inl rfl, fun _ _ => ⟨show (0 : Int) ≤ (0 : Int32).toInt by decide, show (0 : Int32).toInt < 8 by decide⟩⟩ ⟨?_, ?_, fun h => absurd rfl h, Or.inl rfl, fun h => absurd rfl h, Or.inl rfl⟩
  · exact ⟨fun _ _ => Nat.two_pow_pos 131, fun _ _ => ⟨Nat.two_pow_pos 209, Nat.two_pow_pos 187⟩⟩
  · exact ⟨fun _ _ => Nat.two_pow_pos 131, fun _ _ => ⟨Nat.two_pow_pos 209, Nat.two_pow_pos 187⟩⟩
set_option maxHeartbeats 4000000 in
set_option maxRecDepth 100000 in
theorem ClsI_start (q0 : Nat) (aa : Nat → Nat) (kk : Nat → ClassId) (cI cB cL cZ cW : ClassId) : ∃ Fc Fs : Nat, ClsI (fun j => ([kk 0, kk 12] : List ClassId).getD j cI) (fun j => ([kk 1] : List ClassId).getD j cI) (fun j => ([kk 2, kk 3, kk 4, kk 5, kk 6, kk 7, kk 8, kk 9, kk 10, kk 11] : List ClassId).getD j cI) (fun j => ([cI, cI, cI, cI, cI, cI, cI, cI, cI, cL, cL, cI, cI, cL] : List ClassId).getD j cI) (fun j => ([cI, cI, cI, cI, cI] : List ClassId).getD j cI) (fun j => ([cI, cI, cI, cI, cI, cI, cI, cI, cI, cI, cI] : List ClassId).getD j cI) (fun j => ([cL] : List ClassId).getD j cI) (fun j => ([cL, cI, cI, cI, cI, cI, cI, cL, cL, cI] : List ClassId).getD j cI) (fun j => ([cI] : List ClassId).getD j cI) (fun j => ([cI, cL, cL, cI, cI, cI, cW, cW, cW, cW] : List ClassId).getD j cI) (fun j => ([cW, cI, cI, cZ] : List ClassId).getD j cI) (fun j => ([cZ, cW, cW, cI, cI] : List ClassId).getD j cI) cL q0 (0, ntZ, clZ, vlZ) Fc Fs [(q0, .inr (11, [.ref (aa 0), .ref (aa 1), .ref (aa 3), .ref (aa 14), .int 0, .null, .null, .null, .null, .null, .null])), ((aa 0), .inl ((kk 0), 5, .inl (fun _ => 0))), ((aa 14), .inl ((kk 12), 64, .inl (fun _ => 0))), ((aa 1), .inr (9, [.ref (aa 2), .int 0, .int 0, .int (-1), .int 0, .int 0, .int 0, .long 0, .int 0])), ((aa 2), .inl ((kk 1), 64, .inl (fun _ => 0))), ((aa 3), .inr (1, [.int 0, .int 0, .int 0, .int 0, .int 0, .int 0, .ref (aa 4), .ref (aa 5), .ref (aa 6), .ref (aa 7), .int 0, .ref (aa 8), .ref (aa 9), .ref (aa 10), .ref (aa 11), .ref (aa 12), .ref (aa 13)])), ((aa 4), .inl ((kk 2), 8, .inl (fun _ => 0))), ((aa 5), .inl ((kk 3), 8, .inl (fun _ => 0))), ((aa 6), .inl ((kk 4), 8, .inl (fun _ => 0))), ((aa 7), .inl ((kk 5), 12, .inl (fun _ => 0))), ((aa 8), .inl ((kk 6), 12, .inl (fun _ => 0))), ((aa 9), .inl ((kk 7), 360, .inl (fun _ => 0))), ((aa 10), .inl ((kk 8), 27, .inl (fun _ => 0))), ((aa 11), .inl ((kk 9), 27, .inl (fun _ => 0))), ((aa 12), .inl ((kk 10), 3, .inl (fun _ => 0))), ((aa 13), .inl ((kk 11), 8, .inl (fun _ => 0)))] :=
  ⟨_, _, (fun _ => q0), (fun _ => aa 0), (fun _ => aa 1), (fun _ => aa 3), (fun _ => 0), (fun _ => 0), (aa 14), 64, 0, .null, .null, .null, .null, .null, .null, (fun _ => 0), (fun _ => 0), (aa 2), 64, 0, 0, (-1), 0, 0, 0, 0, 0, (fun j => aa (j + 4)), 0, 0, 0, 0, 0, 0, (fun _ => 0), (fun _ => 0), (fun _ => 0), (fun _ => 0), 0, (fun _ => 0), (fun _ => 0), (fun _ => 0), (fun _ => 0), (fun _ => 0), (fun _ => 0), [], [], [], [], [], 0, 0, 0, 0, 0, ntZ, clZ, vlZ, (by first | decide | (intro q; exact z_bd (by decide) (by decide)) | (intro q; decide) | (intro q h; decide) | (intros; decide) | (intros; omega)), (by first | decide | (intro q; exact z_bd (by decide) (by decide)) | (intro q; decide) | (intro q h; decide) | (intros; decide) | (intros; omega)), (by first | decide | (intro q; exact z_bd (by decide) (by decide)) | (intro q; decide) | (intro q h; decide) | (intros; decide) | (intros; omega)), (by first | decide | (intro q; exact z_bd (by decide) (by decide)) | (intro q; decide) | (intro q h; decide) | (intros; decide) | (intros; omega)), (by first | decide | (intro q; exact z_bd (by decide) (by decide)) | (intro q; decide) | (intro q h; decide) | (intros; decide) | (intros; omega)), (by first | decide | (intro q; exact z_bd (by decide) (by decide)) | (intro q; decide) | (intro q h; decide) | (intros; decide) | (intros; omega)), (by first | decide | (intro q; exact z_bd (by decide) (by decide)) | (intro q; decide) | (intro q h; decide) | (intros; decide) | (intros; omega)), (by first | decide | (intro q; exact z_bd (by decide) (by decide)) | (intro q; decide) | (intro q h; decide) | (intros; decide) | (intros; omega)), (by first | decide | (intro q; exact z_bd (by decide) (by decide)) | (intro q; decide) | (intro q h; decide) | (intros; decide) | (intros; omega)), (by first | decide | (intro q; exact z_bd (by decide) (by decide)) | (intro q; decide) | (intro q h; decide) | (intros; decide) | (intros; omega)), (by first | decide | (intro q; exact z_bd (by decide) (by decide)) | (intro q; decide) | (intro q h; decide) | (intros; decide) | (intros; omega)), (by first | decide | (intro q; exact z_bd (by decide) (by decide)) | (intro q; decide) | (intro q h; decide) | (intros; decide) | (intros; omega)), (by first | decide | (intro q; exact z_bd (by decide) (by decide)) | (intro q; decide) | (intro q h; decide) | (intros; decide) | (intros; omega)), (by first | decide | (intro q; exact z_bd (by decide) (by decide)) | (intro q; decide) | (intro q h; decide) | (intros; decide) | (intros; omega)), (by first | decide | (intro q; exact z_bd (by decide) (by decide)) | (intro q; decide) | (intro q h; decide) | (intros; decide) | (intros; omega)), (by first | decide | (intro q; exact z_bd (by decide) (by decide)) | (intro q; decide) | (intro q h; decide) | (intros; decide) | (intros; omega)), (by first | decide | (intro q; exact z_bd (by decide) (by decide)) | (intro q; decide) | (intro q h; decide) | (intros; decide) | (intros; omega)), (by first | decide | (intro q; exact z_bd (by decide) (by decide)) | (intro q; decide) | (intro q h; decide) | (intros; decide) | (intros; omega)), (by first | decide | (intro q; exact z_bd (by decide) (by decide)) | (intro q; decide) | (intro q h; decide) | (intros; decide) | (intros; omega)), (by first | decide | (intro q; exact z_bd (by decide) (by decide)) | (intro q; decide) | (intro q h; decide) | (intros; decide) | (intros; omega)), (by first | decide | (intro q; exact z_bd (by decide) (by decide)) | (intro q; decide) | (intro q h; decide) | (intros; decide) | (intros; omega)), (Or.inl ⟨rfl, rfl, rfl, rfl⟩), (Or.inl ⟨Or.inl ⟨rfl, rfl⟩, rfl⟩), (Or.inl ⟨rfl, rfl, rfl, rfl⟩), (Or.inl ⟨rfl, rfl, rfl⟩), (Or.inl ⟨rfl, rfl, rfl⟩), (Or.inl ⟨rfl, rfl⟩), (Or.inl ⟨rfl, rfl⟩), rfl, rfl, rfl, rfl, rfl⟩
set_option maxRecDepth 100000 in
theorem tau_start {D : va_G} {s : State} {kk : Nat → ClassId} {cL cW : ClassId} (h : va_K D vwCl [(kk 0, .int), (kk 1, .byte), (kk 2, .int), (kk 3, .int), (kk 4, .boolean), (kk 5, .int), (kk 6, .int), (kk 7, .int), (kk 8, .int), (kk 9, .int), (kk 10, .boolean), (kk 11, .int), (kk 12, .byte), (cL, .long), (cW, .object "OptimaWorks$Whole")] s) : va_K D vwCl (tX (fun j => ([kk 0, kk 12] : List ClassId).getD j (kk 0)) ++ (tT (fun j => ([kk 1] : List ClassId).getD j (kk 0)) ++ (tM (fun j => ([kk 2, kk 3, kk 4, kk 5, kk 6, kk 7, kk 8, kk 9, kk 10, kk 11] : List ClassId).getD j (kk 0)) ++ (tV (fun j => ([(kk 0), (kk 0), (kk 0), (kk 0), (kk 0), (kk 0), (kk 0), (kk 0), (kk 0), cL, cL, (kk 0), (kk 0), cL] : List ClassId).getD j (kk 0)) ++ (tC (fun j => ([(kk 0), (kk 0), (kk 0), (kk 0), (kk 0)] : List ClassId).getD j (kk 0)) ++ (tN (fun j => ([(kk 0), (kk 0), (kk 0), (kk 0), (kk 0), (kk 0), (kk 0), (kk 0), (kk 0), (kk 0), (kk 0)] : List ClassId).getD j (kk 0)) ++ (tJ (fun j => ([cL] : List ClassId).getD j (kk 0)) ++ (tL (fun j => ([cL, (kk 0), (kk 0), (kk 0), (kk 0), (kk 0), (kk 0), cL, cL, (kk 0)] : List ClassId).getD j (kk 0)) ++ (tF (fun j => ([(kk 0)] : List ClassId).getD j (kk 0)) ++ (tO (fun j => ([(kk 0), cL, cL, (kk 0), (kk 0), (kk 0), cW, cW, cW, cW] : List ClassId).getD j (kk 0)) ++ (tQ (fun j => ([cW, (kk 0), (kk 0), (kk 4)] : List ClassId).getD j (kk 0)) ++ (tG (fun j => ([(kk 4), cW, cW, (kk 0), (kk 0)] : List ClassId).getD j (kk 0)) ++ (tW cL))))))))))))) s := h.sub [0, 12, 1, 2, 3, 4, 5, 6, 7, 8, 9, 10, 11, 0, 0, 0, 0, 0, 0, 0, 0, 0, 13, 13, 0, 0, 13, 0, 0, 0, 0, 0, 0, 0, 0, 0, 0, 0, 0, 0, 0, 0, 0, 13, 13, 0, 0, 0, 0, 0, 0, 13, 13, 0, 0, 0, 13, 13, 0, 0, 0, 14, 14, 14, 14, 14, 0, 0, 4, 4, 14, 14, 0, 0, 13] rfl
/-- a list in another order: by its places -/
theorem perm_w {ws ws' : va_W} {is : List Nat} (hp : is.Perm (List.range is.length)) (hl : ws.length = is.length) (e : ws' = is.filterMap (fun i => ws[i]?)) : ws.Perm ws' := by
  subst e
  have h : (List.range ws.length).filterMap (fun i => ws[i]?) = ws := by
    clear hl hp
    induction ws with
    | nil => rfl
    | cons a t ih =>
      rw [List.length_cons, List.range_succ_eq_map, List.filterMap_cons, List.filterMap_map]
      show a :: _ = _
      congr 1
  have h2 : ((List.range ws.length).filterMap (fun i => ws[i]?)).Perm (is.filterMap (fun i => ws[i]?)) := by
    rw [hl]; exact hp.symm.filterMap _
  rw [h] at h2
  exact h2
theorem va_AO.cls {C : String} {s : State} (h : va_AO C s) {dC : Nat → ClassId} {dI : Nat → Nat → Nat} (hK : ∀ (c : Nat) (q : vw_C), vwCl[c]? = some q → u_Kn s q.1 q.2.1 q.2.2 (dC c) (dI c)) : ∃ k : ClassId, va_K (dC, dI) vwCl [(k, .object C)] s := by
  obtain ⟨comp, c, k, h1, h2, h3, h4, h5⟩ := Cond.arrayOver_spec h
  refine ⟨c, hK, fun i q hq => ?_⟩
  cases i with
  | zero =>
    obtain rfl := Option.some.inj hq
    exact ⟨fun N z => ⟨(fun k h => by cases h), k, h3, comp, h4⟩, ⟨k, comp, h3, h4, h1, h5⟩⟩
  | succ n => cases hq
theorem dL_law_0 : decode cL_law 0 = .ok (.new 8, 3) := dk_187 (by decide +kernel)
theorem dL_law_3 : decode cL_law 3 = .ok (.dup, 1) := dk_89 (by decide +kernel)
theorem dL_law_4 : decode cL_law 4 = .ok (.invokespecial 88, 3) := dk_183 (by decide +kernel)
theorem dL_law_7 : decode cL_law 7 = .ok (.astore_n 1, 1) := dk_76 (by decide +kernel)
theorem dL_law_8 : decode cL_law 8 = .ok (.new 89, 3) := dk_187 (by decide +kernel)
theorem dL_law_11 : decode cL_law 11 = .ok (.dup, 1) := dk_89 (by decide +kernel)
theorem dL_law_12 : decode cL_law 12 = .ok (.invokespecial 91, 3) := dk_183 (by decide +kernel)
theorem dL_law_15 : decode cL_law 15 = .ok (.astore_n 2, 1) := dk_77 (by decide +kernel)
theorem dL_law_16 : decode cL_law 16 = .ok (.iconst 1, 1) := dk_4 (by decide +kernel)
theorem dL_law_17 : decode cL_law 17 = .ok (.newarray .long, 2) := by decide +kernel
theorem dL_law_19 : decode cL_law 19 = .ok (.astore_n 3, 1) := dk_78 (by decide +kernel)
theorem dL_law_20 : decode cL_law 20 = .ok (.iconst 0, 1) := dk_3 (by decide +kernel)
theorem dL_law_21 : decode cL_law 21 = .ok (.istore 4, 2) := dk_54 (by decide +kernel)
set_option maxRecDepth 100000 in
theorem gwx_11 : GoodIn lw_tbl wsX11_init := goodIn_sub (ml_wsX11_init) (by decide +kernel)
set_option maxRecDepth 100000 in
theorem gwx_12 : GoodIn lw_tbl wsX12_init := goodIn_sub (ml_wsX12_init) (by decide +kernel)
set_option maxHeartbeats 4000000 in
set_option maxRecDepth 100000 in
theorem whole_start {p : Program} {e : Env} {s : State} {m : MethodId} {below : List Frame} {meth : Method} {c : Code} (l : Launch) (hst : l.stackTraces = false) {b Ls : Nat} {xs : Nat → Int32} (hLs : Ls ≤ 384) (C0 : lw_At p s m meth c b Ls xs) : W p l e room_1 s m #[Value.ref b] below meth c s.heap [] 0 0 (lw_Z below #[Value.ref b] s) (entryFrame m ([Value.ref b] : List Value).toArray 7) := by
  obtain ⟨hx, hb, hr, hml, hown, hts, hX, hbl, hlocks, hgv⟩ := id C0
  have hb : c.code = cL_law := hb
  have hown : s.vm.findClass RL = some m.cls := hown
  have hn15 : va_Nw (.methodLinkNest RX11 15 yX9_init RX11) s := va_Nw.of rfl (hts _ (by decide +kernel))
  have hn22 : va_Nw (.methodLinkNest RX11 22 yX1_init RX11) s := va_Nw.of rfl (hts _ (by decide +kernel))
  obtain ⟨c0, i0, hKn0⟩ := u_known (C := RX0) (T := TX0) (N := 7) (n := 7) hts il_0 (hts (.instantiable RX0 7) (by decide +kernel))
  obtain ⟨c1, i1, hKn1⟩ := u_known (C := RX1) (T := TX1) (N := 17) (n := 17) hts il_1 (hts (.instantiable RX1 17) (by decide +kernel))
  obtain ⟨c2, i2, hKn2⟩ := u_known (C := RX2) (T := TX2) (N := 14) (n := 14) hts il_2 (hts (.instantiable RX2 14) (by decide +kernel))
  obtain ⟨c3, i3, hKn3⟩ := u_known (C := RX3) (T := TX3) (N := 17) (n := 17) hts il_3 (hts (.instantiable RX3 17) (by decide +kernel))
  obtain ⟨c4, i4, hKn4⟩ := u_known (C := RX4) (T := TX4) (N := 11) (n := 11) hts il_4 (hts (.instantiable RX4 11) (by decide +kernel))
  obtain ⟨c5, i5, hKn5⟩ := u_known (C := RX5) (T := TX5) (N := 19) (n := 19) hts il_5 (hts (.instantiable RX5 19) (by decide +kernel))
  obtain ⟨c6, i6, hKn6⟩ := u_known (C := RX6) (T := TX6) (N := 13) (n := 13) hts il_6 (hts (.instantiable RX6 13) (by decide +kernel))
  obtain ⟨c7, i7, hKn7⟩ := u_known (C := RX7) (T := TX7) (N := 20) (n := 20) hts il_7 (hts (.instantiable RX7 20) (by decide +kernel))
  obtain ⟨c8, i8, hKn8⟩ := u_known (C := RX8) (T := TX8) (N := 3) (n := 3) hts il_8 (hts (.instantiable RX8 3) (by decide +kernel))
  obtain ⟨c9, i9, hKn9⟩ := u_known (C := RX9) (T := TX9) (N := 9) (n := 9) hts il_9 (hts (.instantiable RX9 9) (by decide +kernel))
  obtain ⟨c10, i10, hKn10⟩ := u_known (C := RX10) (T := TX10) (N := 20) (n := 20) hts il_10 (hts (.instantiable RX10 20) (by decide +kernel))
  obtain ⟨c11, i11, hKn11⟩ := u_known (C := RX11) (T := TX11) (N := 11) (n := 11) hts il_11 (hts (.instantiable RX11 11) (by decide +kernel))
  obtain ⟨c12, i12, hKn12⟩ := u_known (C := RX12) (T := TX12) (N := 163) (n := 163) hts il_12 (hts (.instantiable RX12 163) (by decide +kernel))
  obtain ⟨dC, dI, hKc⟩ : ∃ (dC : Nat → ClassId) (dI : Nat → Nat → Nat), ∀ (k : Nat) (q : vw_C), vwCl[k]? = some q → u_Kn s q.1 q.2.1 q.2.2 (dC k) (dI k) := by
    refine ⟨fun k => [c0, c1, c2, c3, c4, c5, c6, c7, c8, c9, c10, c11, c12].getD k c0, fun k => [i0, i1, i2, i3, i4, i5, i6, i7, i8, i9, i10, i11, i12].getD k i0, ?_⟩
    intro k q hq
    match k, hq with
    | 0, hq => cases hq; exact hKn0
    | 1, hq => cases hq; exact hKn1
    | 2, hq => cases hq; exact hKn2
    | 3, hq => cases hq; exact hKn3
    | 4, hq => cases hq; exact hKn4
    | 5, hq => cases hq; exact hKn5
    | 6, hq => cases hq; exact hKn6
    | 7, hq => cases hq; exact hKn7
    | 8, hq => cases hq; exact hKn8
    | 9, hq => cases hq; exact hKn9
    | 10, hq => cases hq; exact hKn10
    | 11, hq => cases hq; exact hKn11
    | 12, hq => cases hq; exact hKn12
    | k + 13, hq => simp [vwCl] at hq
  obtain ⟨A, hA, hA2⟩ : ∃ A : Nat → Prop, (∀ q : Nat, s.heap.size ≤ q → A q) ∧ (∀ q : Nat, A q → s.heap.size ≤ q) := ⟨fun q => s.heap.size ≤ q, fun _ h => h, fun _ h => h⟩
  obtain ⟨hCE, hSA, hNc⟩ := lw_env C0 (A := A) (fun a h1 h2 => absurd (hA2 a h2) (Nat.not_le.mpr h1))
  have hbA : ¬ A b := fun h => absurd (hA2 b h) (Nat.not_le.mpr hbl)
  have hS : va_S A s.heap s.heap [] := va_S.rf
  have hK : va_K (dC, dI) vwCl [] s := ⟨hKc, fun k q h => by simp at h⟩
  have hP : va_P (dC, dI) vwCl [] s.heap := nilP
  have hD : va_D A [] := nilD
  have hl := lv_entry ([.ref b]) (n := 7) (Nat.le_of_ble_eq_true rfl)
  rw [lg_entry_eq]
  generalize (lg_sl ([.ref b]) ++ List.replicate (7 - (lg_sl ([.ref b])).length) Slot.unset).toArray = ls at hl ⊢
  have hl : lv_has ls 7 [(0, .ref b)] := hl
  refine va_new (ci := 11) (fs := [.null, .null, .null, .null, .int 0, .null, .null, .null, .null, .null, .null]) (C := RX11) (T := TX11) (N := 11) hx hb hts il_11 tyX11 tyX11_ok hown (hts (.classLink RL 8 RX11) (by decide +kernel)) (hts (.instantiable RX11 11) (by decide +kernel)) (hts (.initialized RX11) (by decide +kernel)) hK hP hD hS hA rfl (by decide +kernel) (by decide +kernel) (by decide +kernel) dL_law_0 (fun q0 H hP hD hS => ?_)
  have hP : va_P (dC, dI) vwCl [(q0, .inr (11, [.null, .null, .null, .null, .int 0, .null, .null, .null, .null, .null, .null]))] H := hP
  have hD : va_D A [(q0, .inr (11, [.null, .null, .null, .null, .int 0, .null, .null, .null, .null, .null, .null]))] := hD
  refine W.widen (k := 1) (n := 11) (by decide +kernel) (by decide +kernel) ?_
  refine lv_dup hx hb dL_law_3 rfl ?_
  have hPc : va_P (dC, dI) vwCl ([(q0, .inr (11, [.null, .null, .null, .null, .int 0, .null, .null, .null, .null, .null, .null]))]) _ := hP.sub [0] rfl
  have hDc : va_D _ ([(q0, .inr (11, [.null, .null, .null, .null, .int 0, .null, .null, .null, .null, .null, .null]))]) := hD.sub [0] (by decide) rfl
  have hKc : va_K (dC, dI) vwCl ([]) _ := hK.sub [] rfl
  have hFc := va_free (wc := [(q0, .inr (11, [.null, .null, .null, .null, .int 0, .null, .null, .null, .null, .null, .null]))]) hD hS hA [0] rfl
  refine va_callv (va_runI (As := []) (rest := [.ref q0]) ⟨hx, hb, hml, hown, hts⟩ (c_X11_init l dC dI q0 H.size) (cwI 0 hts gwx_11 rfl rfl rfl (hts (.initialized RX11) (by decide +kernel)) (hts (.methodLink RL 88 yX11_init) (by decide +kernel)) (hts (.instanceMethod yX11_init) (by decide +kernel)) rfl (by decide +kernel) ⟨by decide +kernel, by decide +kernel⟩) ⟨fun a U g mk q => by obtain ⟨q0, q1, qP, qK, qD, qhn15, qhn22⟩ := q; exact ⟨q0, q1, qP, va_K.moved (u := U) (U := U.calling g mk a) (Vm.Alike.refl U.vm) qK, qD, va_Nw.same (u := U) (U := U.calling g mk a) rfl rfl qhn15, va_Nw.same (u := U) (U := U.calling g mk a) rfl rfl qhn22⟩, fun U hU9 hW => ⟨rfl, by rw [hU9], by rw [hU9]; exact hPc, va_K.moved hW.alike hKc, hDc.weaken (fun _ _ _ _ => trivial), va_Nw.warmM hW hn15, va_Nw.warmM hW hn22⟩⟩ rfl rfl hl.1 rfl (lv_room (Nat.le_of_ble_eq_true rfl)) dL_law_4 (by decide +kernel)) hS (fun q _ h => hFc q h) hFc (fun u t H1 locs ht hvm hw hB hz1 hk1 hS => ?_)
  obtain ⟨aa, kk⟩ := u
  obtain ⟨hP1, hK1, hD1⟩ := hB
  rw [ht] at hP1
  have hK1 := va_K.moved hvm.symm hK1
  obtain ⟨hP, hD⟩ := va_join (wr := []) (w1 := [(q0, .inr (11, [.ref (aa 0), .ref (aa 1), .ref (aa 3), .ref (aa 14), .int 0, .null, .null, .null, .null, .null, .null])), ((aa 0), .inl ((kk 0), 5, .inl (fun _ => 0))), ((aa 1), .inr (9, [.ref (aa 2), .int 0, .int 0, .int (-1), .int 0, .int 0, .int 0, .long 0, .int 0])), ((aa 2), .inl ((kk 1), 64, .inl (fun _ => 0))), ((aa 3), .inr (1, [.int 0, .int 0, .int 0, .int 0, .int 0, .int 0, .ref (aa 4), .ref (aa 5), .ref (aa 6), .ref (aa 7), .int 0, .ref (aa 8), .ref (aa 9), .ref (aa 10), .ref (aa 11), .ref (aa 12), .ref (aa 13)])), ((aa 4), .inl ((kk 2), 8, .inl (fun _ => 0))), ((aa 5), .inl ((kk 3), 8, .inl (fun _ => 0))), ((aa 6), .inl ((kk 4), 8, .inl (fun _ => 0))), ((aa 7), .inl ((kk 5), 12, .inl (fun _ => 0))), ((aa 8), .inl ((kk 6), 12, .inl (fun _ => 0))), ((aa 9), .inl ((kk 7), 360, .inl (fun _ => 0))), ((aa 10), .inl ((kk 8), 27, .inl (fun _ => 0))), ((aa 11), .inl ((kk 9), 27, .inl (fun _ => 0))), ((aa 12), .inl ((kk 10), 3, .inl (fun _ => 0))), ((aa 13), .inl ((kk 11), 8, .inl (fun _ => 0))), ((aa 14), .inl ((kk 12), 64, .inl (fun _ => 0)))]) hP hD [0] [] rfl rfl (by decide) (by decide) hk1 hFc hP1 hD1
  have hK := hK.app hK1
  generalize H1 = H at hP hS ⊢
  have hP : va_P (dC, dI) vwCl [(q0, .inr (11, [.ref (aa 0), .ref (aa 1), .ref (aa 3), .ref (aa 14), .int 0, .null, .null, .null, .null, .null, .null])), ((aa 0), .inl ((kk 0), 5, .inl (fun _ => 0))), ((aa 1), .inr (9, [.ref (aa 2), .int 0, .int 0, .int (-1), .int 0, .int 0, .int 0, .long 0, .int 0])), ((aa 2), .inl ((kk 1), 64, .inl (fun _ => 0))), ((aa 3), .inr (1, [.int 0, .int 0, .int 0, .int 0, .int 0, .int 0, .ref (aa 4), .ref (aa 5), .ref (aa 6), .ref (aa 7), .int 0, .ref (aa 8), .ref (aa 9), .ref (aa 10), .ref (aa 11), .ref (aa 12), .ref (aa 13)])), ((aa 4), .inl ((kk 2), 8, .inl (fun _ => 0))), ((aa 5), .inl ((kk 3), 8, .inl (fun _ => 0))), ((aa 6), .inl ((kk 4), 8, .inl (fun _ => 0))), ((aa 7), .inl ((kk 5), 12, .inl (fun _ => 0))), ((aa 8), .inl ((kk 6), 12, .inl (fun _ => 0))), ((aa 9), .inl ((kk 7), 360, .inl (fun _ => 0))), ((aa 10), .inl ((kk 8), 27, .inl (fun _ => 0))), ((aa 11), .inl ((kk 9), 27, .inl (fun _ => 0))), ((aa 12), .inl ((kk 10), 3, .inl (fun _ => 0))), ((aa 13), .inl ((kk 11), 8, .inl (fun _ => 0))), ((aa 14), .inl ((kk 12), 64, .inl (fun _ => 0)))] H := hP
  have hD : va_D A [(q0, .inr (11, [.ref (aa 0), .ref (aa 1), .ref (aa 3), .ref (aa 14), .int 0, .null, .null, .null, .null, .null, .null])), ((aa 0), .inl ((kk 0), 5, .inl (fun _ => 0))), ((aa 1), .inr (9, [.ref (aa 2), .int 0, .int 0, .int (-1), .int 0, .int 0, .int 0, .long 0, .int 0])), ((aa 2), .inl ((kk 1), 64, .inl (fun _ => 0))), ((aa 3), .inr (1, [.int 0, .int 0, .int 0, .int 0, .int 0, .int 0, .ref (aa 4), .ref (aa 5), .ref (aa 6), .ref (aa 7), .int 0, .ref (aa 8), .ref (aa 9), .ref (aa 10), .ref (aa 11), .ref (aa 12), .ref (aa 13)])), ((aa 4), .inl ((kk 2), 8, .inl (fun _ => 0))), ((aa 5), .inl ((kk 3), 8, .inl (fun _ => 0))), ((aa 6), .inl ((kk 4), 8, .inl (fun _ => 0))), ((aa 7), .inl ((kk 5), 12, .inl (fun _ => 0))), ((aa 8), .inl ((kk 6), 12, .inl (fun _ => 0))), ((aa 9), .inl ((kk 7), 360, .inl (fun _ => 0))), ((aa 10), .inl ((kk 8), 27, .inl (fun _ => 0))), ((aa 11), .inl ((kk 9), 27, .inl (fun _ => 0))), ((aa 12), .inl ((kk 10), 3, .inl (fun _ => 0))), ((aa 13), .inl ((kk 11), 8, .inl (fun _ => 0))), ((aa 14), .inl ((kk 12), 64, .inl (fun _ => 0)))] := hD
  have hK : va_K (dC, dI) vwCl [((kk 0), .int), ((kk 1), .byte), ((kk 2), .int), ((kk 3), .int), ((kk 4), .boolean), ((kk 5), .int), ((kk 6), .int), ((kk 7), .int), ((kk 8), .int), ((kk 9), .int), ((kk 10), .boolean), ((kk 11), .int), ((kk 12), .byte)] s := hK
  refine W.widen (k := 16) (n := 643) (by decide +kernel) (by decide +kernel) ?_
  refine lv_astore_n hx hb dL_law_7 rfl hl (by decide) rfl (fun ls (hl : lv_has ls _ ([(1, .ref q0), (0, .ref b)])) => ?_)
  refine va_new (ci := 12) (fs := fM v0M) (C := RX12) (T := TX12) (N := 163) hx hb hts il_12 tyX12 tyX12_ok hown (hts (.classLink RL 89 RX12) (by decide +kernel)) (hts (.instantiable RX12 163) (by decide +kernel)) (hts (.initialized RX12) (by decide +kernel)) hK hP hD hS hA rfl (by decide +kernel) (by decide +kernel) (by decide +kernel) dL_law_8 (fun h2 H hP hD hS => ?_)
  have hP : va_P (dC, dI) vwCl [(q0, .inr (11, [.ref (aa 0), .ref (aa 1), .ref (aa 3), .ref (aa 14), .int 0, .null, .null, .null, .null, .null, .null])), ((aa 0), .inl ((kk 0), 5, .inl (fun _ => 0))), ((aa 1), .inr (9, [.ref (aa 2), .int 0, .int 0, .int (-1), .int 0, .int 0, .int 0, .long 0, .int 0])), ((aa 2), .inl ((kk 1), 64, .inl (fun _ => 0))), ((aa 3), .inr (1, [.int 0, .int 0, .int 0, .int 0, .int 0, .int 0, .ref (aa 4), .ref (aa 5), .ref (aa 6), .ref (aa 7), .int 0, .ref (aa 8), .ref (aa 9), .ref (aa 10), .ref (aa 11), .ref (aa 12), .ref (aa 13)])), ((aa 4), .inl ((kk 2), 8, .inl (fun _ => 0))), ((aa 5), .inl ((kk 3), 8, .inl (fun _ => 0))), ((aa 6), .inl ((kk 4), 8, .inl (fun _ => 0))), ((aa 7), .inl ((kk 5), 12, .inl (fun _ => 0))), ((aa 8), .inl ((kk 6), 12, .inl (fun _ => 0))), ((aa 9), .inl ((kk 7), 360, .inl (fun _ => 0))), ((aa 10), .inl ((kk 8), 27, .inl (fun _ => 0))), ((aa 11), .inl ((kk 9), 27, .inl (fun _ => 0))), ((aa 12), .inl ((kk 10), 3, .inl (fun _ => 0))), ((aa 13), .inl ((kk 11), 8, .inl (fun _ => 0))), ((aa 14), .inl ((kk 12), 64, .inl (fun _ => 0))), (h2, .inr (12, fM v0M))] H := hP
  have hD : va_D A [(q0, .inr (11, [.ref (aa 0), .ref (aa 1), .ref (aa 3), .ref (aa 14), .int 0, .null, .null, .null, .null, .null, .null])), ((aa 0), .inl ((kk 0), 5, .inl (fun _ => 0))), ((aa 1), .inr (9, [.ref (aa 2), .int 0, .int 0, .int (-1), .int 0, .int 0, .int 0, .long 0, .int 0])), ((aa 2), .inl ((kk 1), 64, .inl (fun _ => 0))), ((aa 3), .inr (1, [.int 0, .int 0, .int 0, .int 0, .int 0, .int 0, .ref (aa 4), .ref (aa 5), .ref (aa 6), .ref (aa 7), .int 0, .ref (aa 8), .ref (aa 9), .ref (aa 10), .ref (aa 11), .ref (aa 12), .ref (aa 13)])), ((aa 4), .inl ((kk 2), 8, .inl (fun _ => 0))), ((aa 5), .inl ((kk 3), 8, .inl (fun _ => 0))), ((aa 6), .inl ((kk 4), 8, .inl (fun _ => 0))), ((aa 7), .inl ((kk 5), 12, .inl (fun _ => 0))), ((aa 8), .inl ((kk 6), 12, .inl (fun _ => 0))), ((aa 9), .inl ((kk 7), 360, .inl (fun _ => 0))), ((aa 10), .inl ((kk 8), 27, .inl (fun _ => 0))), ((aa 11), .inl ((kk 9), 27, .inl (fun _ => 0))), ((aa 12), .inl ((kk 10), 3, .inl (fun _ => 0))), ((aa 13), .inl ((kk 11), 8, .inl (fun _ => 0))), ((aa 14), .inl ((kk 12), 64, .inl (fun _ => 0))), (h2, .inr (12, fM v0M))] := hD
  refine W.widen (k := 17) (n := 806) (by decide +kernel) (by decide +kernel) ?_
  refine lv_dup hx hb dL_law_11 rfl ?_
  have hPc : va_P (dC, dI) vwCl ([(h2, .inr (12, fM v0M))]) _ := hP.sub [16] rfl
  have hDc : va_D _ ([(h2, .inr (12, fM v0M))]) := hD.sub [16] (by decide) rfl
  have hKc : va_K (dC, dI) vwCl ([]) _ := hK.sub [] rfl
  have hFc := va_free (wc := [(h2, .inr (12, fM v0M))]) hD hS hA [16] rfl
  refine va_callv (va_runI (As := []) (rest := [.ref h2]) ⟨hx, hb, hml, hown, hts⟩ (c_X12_init l dC dI h2 H.size) (cwI 0 hts gwx_12 rfl rfl rfl (hts (.initialized RX12) (by decide +kernel)) (hts (.methodLink RL 91 yX12_init) (by decide +kernel)) (hts (.instanceMethod yX12_init) (by decide +kernel)) rfl (by decide +kernel) ⟨by decide +kernel, by decide +kernel⟩) ⟨fun a U g mk q => by obtain ⟨q0, q1, qP, qK, qD⟩ := q; exact ⟨q0, q1, qP, va_K.moved (u := U) (U := U.calling g mk a) (Vm.Alike.refl U.vm) qK, qD⟩, fun U hU9 hW => ⟨rfl, by rw [hU9], by rw [hU9]; exact hPc, va_K.moved hW.alike hKc, hDc.weaken (fun _ _ _ _ => trivial)⟩⟩ rfl rfl hl.1 rfl (lv_room (Nat.le_of_ble_eq_true rfl)) dL_law_12 (by decide +kernel)) hS (fun q _ h => hFc q h) hFc (fun u t H1 locs ht hvm hw hB hz1 hk1 hS => ?_)
  obtain ⟨av, kv⟩ := u
  obtain ⟨hP1, hK1, hD1⟩ := hB
  rw [ht] at hP1
  have hK1 := va_K.moved hvm.symm hK1
  obtain ⟨hP, hD⟩ := va_join (wr := [(q0, .inr (11, [.ref (aa 0), .ref (aa 1), .ref (aa 3), .ref (aa 14), .int 0, .null, .null, .null, .null, .null, .null])), ((aa 0), .inl ((kk 0), 5, .inl (fun _ => 0))), ((aa 1), .inr (9, [.ref (aa 2), .int 0, .int 0, .int (-1), .int 0, .int 0, .int 0, .long 0, .int 0])), ((aa 2), .inl ((kk 1), 64, .inl (fun _ => 0))), ((aa 3), .inr (1, [.int 0, .int 0, .int 0, .int 0, .int 0, .int 0, .ref (aa 4), .ref (aa 5), .ref (aa 6), .ref (aa 7), .int 0, .ref (aa 8), .ref (aa 9), .ref (aa 10), .ref (aa 11), .ref (aa 12), .ref (aa 13)])), ((aa 4), .inl ((kk 2), 8, .inl (fun _ => 0))), ((aa 5), .inl ((kk 3), 8, .inl (fun _ => 0))), ((aa 6), .inl ((kk 4), 8, .inl (fun _ => 0))), ((aa 7), .inl ((kk 5), 12, .inl (fun _ => 0))), ((aa 8), .inl ((kk 6), 12, .inl (fun _ => 0))), ((aa 9), .inl ((kk 7), 360, .inl (fun _ => 0))), ((aa 10), .inl ((kk 8), 27, .inl (fun _ => 0))), ((aa 11), .inl ((kk 9), 27, .inl (fun _ => 0))), ((aa 12), .inl ((kk 10), 3, .inl (fun _ => 0))), ((aa 13), .inl ((kk 11), 8, .inl (fun _ => 0))), ((aa 14), .inl ((kk 12), 64, .inl (fun _ => 0)))]) (w1 := wX12 av kv h2) hP hD [16] [0, 1, 2, 3, 4, 5, 6, 7, 8, 9, 10, 11, 12, 13, 14, 15] rfl rfl (by decide) (by decide) hk1 hFc hP1 hD1
  have hK := hK.app hK1
  generalize H1 = H at hP hS ⊢
  have hP : va_P (dC, dI) vwCl ([(q0, .inr (11, [.ref (aa 0), .ref (aa 1), .ref (aa 3), .ref (aa 14), .int 0, .null, .null, .null, .null, .null, .null])), ((aa 0), .inl ((kk 0), 5, .inl (fun _ => 0))), ((aa 1), .inr (9, [.ref (aa 2), .int 0, .int 0, .int (-1), .int 0, .int 0, .int 0, .long 0, .int 0])), ((aa 2), .inl ((kk 1), 64, .inl (fun _ => 0))), ((aa 3), .inr (1, [.int 0, .int 0, .int 0, .int 0, .int 0, .int 0, .ref (aa 4), .ref (aa 5), .ref (aa 6), .ref (aa 7), .int 0, .ref (aa 8), .ref (aa 9), .ref (aa 10), .ref (aa 11), .ref (aa 12), .ref (aa 13)])), ((aa 4), .inl ((kk 2), 8, .inl (fun _ => 0))), ((aa 5), .inl ((kk 3), 8, .inl (fun _ => 0))), ((aa 6), .inl ((kk 4), 8, .inl (fun _ => 0))), ((aa 7), .inl ((kk 5), 12, .inl (fun _ => 0))), ((aa 8), .inl ((kk 6), 12, .inl (fun _ => 0))), ((aa 9), .inl ((kk 7), 360, .inl (fun _ => 0))), ((aa 10), .inl ((kk 8), 27, .inl (fun _ => 0))), ((aa 11), .inl ((kk 9), 27, .inl (fun _ => 0))), ((aa 12), .inl ((kk 10), 3, .inl (fun _ => 0))), ((aa 13), .inl ((kk 11), 8, .inl (fun _ => 0))), ((aa 14), .inl ((kk 12), 64, .inl (fun _ => 0)))] ++ wX12 av kv h2) H := hP
  have hD : va_D A ([(q0, .inr (11, [.ref (aa 0), .ref (aa 1), .ref (aa 3), .ref (aa 14), .int 0, .null, .null, .null, .null, .null, .null])), ((aa 0), .inl ((kk 0), 5, .inl (fun _ => 0))), ((aa 1), .inr (9, [.ref (aa 2), .int 0, .int 0, .int (-1), .int 0, .int 0, .int 0, .long 0, .int 0])), ((aa 2), .inl ((kk 1), 64, .inl (fun _ => 0))), ((aa 3), .inr (1, [.int 0, .int 0, .int 0, .int 0, .int 0, .int 0, .ref (aa 4), .ref (aa 5), .ref (aa 6), .ref (aa 7), .int 0, .ref (aa 8), .ref (aa 9), .ref (aa 10), .ref (aa 11), .ref (aa 12), .ref (aa 13)])), ((aa 4), .inl ((kk 2), 8, .inl (fun _ => 0))), ((aa 5), .inl ((kk 3), 8, .inl (fun _ => 0))), ((aa 6), .inl ((kk 4), 8, .inl (fun _ => 0))), ((aa 7), .inl ((kk 5), 12, .inl (fun _ => 0))), ((aa 8), .inl ((kk 6), 12, .inl (fun _ => 0))), ((aa 9), .inl ((kk 7), 360, .inl (fun _ => 0))), ((aa 10), .inl ((kk 8), 27, .inl (fun _ => 0))), ((aa 11), .inl ((kk 9), 27, .inl (fun _ => 0))), ((aa 12), .inl ((kk 10), 3, .inl (fun _ => 0))), ((aa 13), .inl ((kk 11), 8, .inl (fun _ => 0))), ((aa 14), .inl ((kk 12), 64, .inl (fun _ => 0)))] ++ wX12 av kv h2) := hD
  have hK : va_K (dC, dI) vwCl ([((kk 0), .int), ((kk 1), .byte), ((kk 2), .int), ((kk 3), .int), ((kk 4), .boolean), ((kk 5), .int), ((kk 6), .int), ((kk 7), .int), ((kk 8), .int), ((kk 9), .int), ((kk 10), .boolean), ((kk 11), .int), ((kk 12), .byte)] ++ tX12 kv) s := hK
  refine W.widen (k := 124) (n := 181433) (by decide +kernel) (by decide +kernel) ?_
  refine lv_astore_n hx hb dL_law_15 rfl hl (by decide) rfl (fun ls (hl : lv_has ls _ ([(2, .ref h2), (1, .ref q0), (0, .ref b)])) => ?_)
  refine lv_iconst (v := 1) hx hb dL_law_16 (by decide) ?_
  refine va_newa (atype := .long) (ty := .long) (N' := 1) (a0 := (1, .inr (.inl (fun _ => 0)))) hx hb (hts (.arrayClass .long) (by decide +kernel)) rfl hK hP hD hS hA (fun _ => rfl) (by decide) (by decide) (by decide +kernel) (by decide +kernel) (by decide +kernel) dL_law_17 (fun o cL H hK hP hD hS => ?_)
  have hP : va_P (dC, dI) vwCl (([(q0, .inr (11, [.ref (aa 0), .ref (aa 1), .ref (aa 3), .ref (aa 14), .int 0, .null, .null, .null, .null, .null, .null])), ((aa 0), .inl ((kk 0), 5, .inl (fun _ => 0))), ((aa 1), .inr (9, [.ref (aa 2), .int 0, .int 0, .int (-1), .int 0, .int 0, .int 0, .long 0, .int 0])), ((aa 2), .inl ((kk 1), 64, .inl (fun _ => 0))), ((aa 3), .inr (1, [.int 0, .int 0, .int 0, .int 0, .int 0, .int 0, .ref (aa 4), .ref (aa 5), .ref (aa 6), .ref (aa 7), .int 0, .ref (aa 8), .ref (aa 9), .ref (aa 10), .ref (aa 11), .ref (aa 12), .ref (aa 13)])), ((aa 4), .inl ((kk 2), 8, .inl (fun _ => 0))), ((aa 5), .inl ((kk 3), 8, .inl (fun _ => 0))), ((aa 6), .inl ((kk 4), 8, .inl (fun _ => 0))), ((aa 7), .inl ((kk 5), 12, .inl (fun _ => 0))), ((aa 8), .inl ((kk 6), 12, .inl (fun _ => 0))), ((aa 9), .inl ((kk 7), 360, .inl (fun _ => 0))), ((aa 10), .inl ((kk 8), 27, .inl (fun _ => 0))), ((aa 11), .inl ((kk 9), 27, .inl (fun _ => 0))), ((aa 12), .inl ((kk 10), 3, .inl (fun _ => 0))), ((aa 13), .inl ((kk 11), 8, .inl (fun _ => 0))), ((aa 14), .inl ((kk 12), 64, .inl (fun _ => 0)))] ++ wX12 av kv h2) ++ [(o, .inl (cL, 1, .inr (.inl (fun _ => 0))))]) H := hP
  have hD : va_D A (([(q0, .inr (11, [.ref (aa 0), .ref (aa 1), .ref (aa 3), .ref (aa 14), .int 0, .null, .null, .null, .null, .null, .null])), ((aa 0), .inl ((kk 0), 5, .inl (fun _ => 0))), ((aa 1), .inr (9, [.ref (aa 2), .int 0, .int 0, .int (-1), .int 0, .int 0, .int 0, .long 0, .int 0])), ((aa 2), .inl ((kk 1), 64, .inl (fun _ => 0))), ((aa 3), .inr (1, [.int 0, .int 0, .int 0, .int 0, .int 0, .int 0, .ref (aa 4), .ref (aa 5), .ref (aa 6), .ref (aa 7), .int 0, .ref (aa 8), .ref (aa 9), .ref (aa 10), .ref (aa 11), .ref (aa 12), .ref (aa 13)])), ((aa 4), .inl ((kk 2), 8, .inl (fun _ => 0))), ((aa 5), .inl ((kk 3), 8, .inl (fun _ => 0))), ((aa 6), .inl ((kk 4), 8, .inl (fun _ => 0))), ((aa 7), .inl ((kk 5), 12, .inl (fun _ => 0))), ((aa 8), .inl ((kk 6), 12, .inl (fun _ => 0))), ((aa 9), .inl ((kk 7), 360, .inl (fun _ => 0))), ((aa 10), .inl ((kk 8), 27, .inl (fun _ => 0))), ((aa 11), .inl ((kk 9), 27, .inl (fun _ => 0))), ((aa 12), .inl ((kk 10), 3, .inl (fun _ => 0))), ((aa 13), .inl ((kk 11), 8, .inl (fun _ => 0))), ((aa 14), .inl ((kk 12), 64, .inl (fun _ => 0)))] ++ wX12 av kv h2) ++ [(o, .inl (cL, 1, .inr (.inl (fun _ => 0))))]) := hD
  have hK : va_K (dC, dI) vwCl (([((kk 0), .int), ((kk 1), .byte), ((kk 2), .int), ((kk 3), .int), ((kk 4), .boolean), ((kk 5), .int), ((kk 6), .int), ((kk 7), .int), ((kk 8), .int), ((kk 9), .int), ((kk 10), .boolean), ((kk 11), .int), ((kk 12), .byte)] ++ tX12 kv) ++ [(cL, .long)]) s := hK
  refine W.widen (k := 125) (n := 181434) (by decide +kernel) (by decide +kernel) ?_
  refine lv_astore_n hx hb dL_law_19 rfl hl (by decide) rfl (fun ls (hl : lv_has ls _ ([(3, .ref o), (2, .ref h2), (1, .ref q0), (0, .ref b)])) => ?_)
  refine lv_iconst (v := 0) hx hb dL_law_20 (by decide) ?_
  refine lv_istore hx hb dL_law_21 hl (by decide) rfl (fun ls (hl : lv_has ls _ ([(4, .int 0), (3, .ref o), (2, .ref h2), (1, .ref q0), (0, .ref b)])) => ?_)
  obtain ⟨cW, hcW⟩ := va_AO.cls hCE.2.2.1.2.2.2.2.2 (dC := dC) (dI := dI) hK.1
  have hK9 : va_K (dC, dI) vwCl [(kk 0, .int), (kk 1, .byte), (kk 2, .int), (kk 3, .int), (kk 4, .boolean), (kk 5, .int), (kk 6, .int), (kk 7, .int), (kk 8, .int), (kk 9, .int), (kk 10, .boolean), (kk 11, .int), (kk 12, .byte), (cL, .long), (cW, .object "OptimaWorks$Whole")] s := (hK.mem (fun q hq => List.mem_append_left _ (List.mem_append_left _ hq))).app ((hK.mem (fun q hq => List.mem_append_right _ hq)).app hcW)
  obtain ⟨Fc, Fs, hC⟩ := ClsI_start q0 aa kk (kk 0) (kk 1) cL (kk 4) cW
  have pw : ([(q0, .inr (11, [.ref (aa 0), .ref (aa 1), .ref (aa 3), .ref (aa 14), .int 0, .null, .null, .null, .null, .null, .null])), ((aa 0), .inl ((kk 0), 5, .inl (fun _ => 0))), ((aa 1), .inr (9, [.ref (aa 2), .int 0, .int 0, .int (-1), .int 0, .int 0, .int 0, .long 0, .int 0])), ((aa 2), .inl ((kk 1), 64, .inl (fun _ => 0))), ((aa 3), .inr (1, [.int 0, .int 0, .int 0, .int 0, .int 0, .int 0, .ref (aa 4), .ref (aa 5), .ref (aa 6), .ref (aa 7), .int 0, .ref (aa 8), .ref (aa 9), .ref (aa 10), .ref (aa 11), .ref (aa 12), .ref (aa 13)])), ((aa 4), .inl ((kk 2), 8, .inl (fun _ => 0))), ((aa 5), .inl ((kk 3), 8, .inl (fun _ => 0))), ((aa 6), .inl ((kk 4), 8, .inl (fun _ => 0))), ((aa 7), .inl ((kk 5), 12, .inl (fun _ => 0))), ((aa 8), .inl ((kk 6), 12, .inl (fun _ => 0))), ((aa 9), .inl ((kk 7), 360, .inl (fun _ => 0))), ((aa 10), .inl ((kk 8), 27, .inl (fun _ => 0))), ((aa 11), .inl ((kk 9), 27, .inl (fun _ => 0))), ((aa 12), .inl ((kk 10), 3, .inl (fun _ => 0))), ((aa 13), .inl ((kk 11), 8, .inl (fun _ => 0))), ((aa 14), .inl ((kk 12), 64, .inl (fun _ => 0)))] : va_W).Perm [(q0, .inr (11, [.ref (aa 0), .ref (aa 1), .ref (aa 3), .ref (aa 14), .int 0, .null, .null, .null, .null, .null, .null])), ((aa 0), .inl ((kk 0), 5, .inl (fun _ => 0))), ((aa 14), .inl ((kk 12), 64, .inl (fun _ => 0))), ((aa 1), .inr (9, [.ref (aa 2), .int 0, .int 0, .int (-1), .int 0, .int 0, .int 0, .long 0, .int 0])), ((aa 2), .inl ((kk 1), 64, .inl (fun _ => 0))), ((aa 3), .inr (1, [.int 0, .int 0, .int 0, .int 0, .int 0, .int 0, .ref (aa 4), .ref (aa 5), .ref (aa 6), .ref (aa 7), .int 0, .ref (aa 8), .ref (aa 9), .ref (aa 10), .ref (aa 11), .ref (aa 12), .ref (aa 13)])), ((aa 4), .inl ((kk 2), 8, .inl (fun _ => 0))), ((aa 5), .inl ((kk 3), 8, .inl (fun _ => 0))), ((aa 6), .inl ((kk 4), 8, .inl (fun _ => 0))), ((aa 7), .inl ((kk 5), 12, .inl (fun _ => 0))), ((aa 8), .inl ((kk 6), 12, .inl (fun _ => 0))), ((aa 9), .inl ((kk 7), 360, .inl (fun _ => 0))), ((aa 10), .inl ((kk 8), 27, .inl (fun _ => 0))), ((aa 11), .inl ((kk 9), 27, .inl (fun _ => 0))), ((aa 12), .inl ((kk 10), 3, .inl (fun _ => 0))), ((aa 13), .inl ((kk 11), 8, .inl (fun _ => 0)))] := perm_w (is := [0, 1, 15, 2, 3, 4, 5, 6, 7, 8, 9, 10, 11, 12, 13, 14]) (by decide) rfl rfl
  have pz : (([(q0, .inr (11, [.ref (aa 0), .ref (aa 1), .ref (aa 3), .ref (aa 14), .int 0, .null, .null, .null, .null, .null, .null])), ((aa 0), .inl ((kk 0), 5, .inl (fun _ => 0))), ((aa 1), .inr (9, [.ref (aa 2), .int 0, .int 0, .int (-1), .int 0, .int 0, .int 0, .long 0, .int 0])), ((aa 2), .inl ((kk 1), 64, .inl (fun _ => 0))), ((aa 3), .inr (1, [.int 0, .int 0, .int 0, .int 0, .int 0, .int 0, .ref (aa 4), .ref (aa 5), .ref (aa 6), .ref (aa 7), .int 0, .ref (aa 8), .ref (aa 9), .ref (aa 10), .ref (aa 11), .ref (aa 12), .ref (aa 13)])), ((aa 4), .inl ((kk 2), 8, .inl (fun _ => 0))), ((aa 5), .inl ((kk 3), 8, .inl (fun _ => 0))), ((aa 6), .inl ((kk 4), 8, .inl (fun _ => 0))), ((aa 7), .inl ((kk 5), 12, .inl (fun _ => 0))), ((aa 8), .inl ((kk 6), 12, .inl (fun _ => 0))), ((aa 9), .inl ((kk 7), 360, .inl (fun _ => 0))), ((aa 10), .inl ((kk 8), 27, .inl (fun _ => 0))), ((aa 11), .inl ((kk 9), 27, .inl (fun _ => 0))), ((aa 12), .inl ((kk 10), 3, .inl (fun _ => 0))), ((aa 13), .inl ((kk 11), 8, .inl (fun _ => 0))), ((aa 14), .inl ((kk 12), 64, .inl (fun _ => 0)))] ++ wX12 av kv h2) ++ [(o, .inl (cL, 1, .inr (.inl (fun _ => 0))))] : va_W).Perm ((o, .inl (cL, 1, .inr (.inl (fun _ => 0)))) :: ([(q0, .inr (11, [.ref (aa 0), .ref (aa 1), .ref (aa 3), .ref (aa 14), .int 0, .null, .null, .null, .null, .null, .null])), ((aa 0), .inl ((kk 0), 5, .inl (fun _ => 0))), ((aa 14), .inl ((kk 12), 64, .inl (fun _ => 0))), ((aa 1), .inr (9, [.ref (aa 2), .int 0, .int 0, .int (-1), .int 0, .int 0, .int 0, .long 0, .int 0])), ((aa 2), .inl ((kk 1), 64, .inl (fun _ => 0))), ((aa 3), .inr (1, [.int 0, .int 0, .int 0, .int 0, .int 0, .int 0, .ref (aa 4), .ref (aa 5), .ref (aa 6), .ref (aa 7), .int 0, .ref (aa 8), .ref (aa 9), .ref (aa 10), .ref (aa 11), .ref (aa 12), .ref (aa 13)])), ((aa 4), .inl ((kk 2), 8, .inl (fun _ => 0))), ((aa 5), .inl ((kk 3), 8, .inl (fun _ => 0))), ((aa 6), .inl ((kk 4), 8, .inl (fun _ => 0))), ((aa 7), .inl ((kk 5), 12, .inl (fun _ => 0))), ((aa 8), .inl ((kk 6), 12, .inl (fun _ => 0))), ((aa 9), .inl ((kk 7), 360, .inl (fun _ => 0))), ((aa 10), .inl ((kk 8), 27, .inl (fun _ => 0))), ((aa 11), .inl ((kk 9), 27, .inl (fun _ => 0))), ((aa 12), .inl ((kk 10), 3, .inl (fun _ => 0))), ((aa 13), .inl ((kk 11), 8, .inl (fun _ => 0)))] ++ wX12 av kv h2)) := (List.perm_append_singleton _ _).trans (List.Perm.cons _ (List.Perm.append_right _ pw))
  refine W.known (fun z1 z2 => ?_)
  exact lw_loop l hst hLs C0 dC dI (fun j => ([kk 0, kk 12] : List ClassId).getD j (kk 0)) (fun j => ([kk 1] : List ClassId).getD j (kk 0)) (fun j => ([kk 2, kk 3, kk 4, kk 5, kk 6, kk 7, kk 8, kk 9, kk 10, kk 11] : List ClassId).getD j (kk 0)) (fun j => ([(kk 0), (kk 0), (kk 0), (kk 0), (kk 0), (kk 0), (kk 0), (kk 0), (kk 0), cL, cL, (kk 0), (kk 0), cL] : List ClassId).getD j (kk 0)) (fun j => ([(kk 0), (kk 0), (kk 0), (kk 0), (kk 0)] : List ClassId).getD j (kk 0)) (fun j => ([(kk 0), (kk 0), (kk 0), (kk 0), (kk 0), (kk 0), (kk 0), (kk 0), (kk 0), (kk 0), (kk 0)] : List ClassId).getD j (kk 0)) (fun j => ([cL] : List ClassId).getD j (kk 0)) (fun j => ([cL, (kk 0), (kk 0), (kk 0), (kk 0), (kk 0), (kk 0), cL, cL, (kk 0)] : List ClassId).getD j (kk 0)) (fun j => ([(kk 0)] : List ClassId).getD j (kk 0)) (fun j => ([(kk 0), cL, cL, (kk 0), (kk 0), (kk 0), cW, cW, cW, cW] : List ClassId).getD j (kk 0)) (fun j => ([cW, (kk 0), (kk 0), (kk 4)] : List ClassId).getD j (kk 0)) (fun j => ([(kk 4), cW, cW, (kk 0), (kk 0)] : List ClassId).getD j (kk 0)) cL kv cL (E0 := ⟨hA, hA2, hCE, hSA, hNc, tau_start hK9, hK.mem (fun q hq => List.mem_append_left _ (List.mem_append_right _ hq)), hK.mem (fun q hq => List.mem_append_right _ hq)⟩) Ls 0 H _ ls _ _ (by omega) (by omega) ⟨(0, ntZ, clZ, vlZ), 0, Fc, Fs, _, _, fun _ => 0, hC, RefI_start av kv h2, Nat.zero_le _, hP.mem (fun q hq => pz.mem_iff.mpr hq), hD.perm pz, hS, by omega, by omega⟩ hl

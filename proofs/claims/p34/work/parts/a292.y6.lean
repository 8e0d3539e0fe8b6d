set_option maxHeartbeats 4000000 in
set_option maxRecDepth 100000 in
/-- the law's case 13: count -/
theorem lc_13 {p : Program} {e : Env} {s : State} {m : MethodId} {below : List Frame} {meth : Method} {c : Code} (l : Launch) (hst : l.stackTraces = false) {b Ls : Nat} {xs : Nat → Int32} (hLs : Ls ≤ 384) (C0 : lw_At p s m meth c b Ls xs) {A : Nat → Prop} (dC : Nat → ClassId) (dI : Nat → Nat → Nat) (kX : Nat → ClassId) (kT : Nat → ClassId) (kM : Nat → ClassId) (kV : Nat → ClassId) (kC : Nat → ClassId) (kN : Nat → ClassId) (kJ : Nat → ClassId) (kL : Nat → ClassId) (kF : Nat → ClassId) (kO : Nat → ClassId) (kQ : Nat → ClassId) (kG : Nat → ClassId) (kw : ClassId) (kv : Nat → ClassId) (kR : ClassId) (E0 : LwC dC dI kX kT kM kV kC kN kJ kL kF kO kQ kG kw kv kR A s) {h1 h2 o j : Nat} (hj : 6 * j + 6 ≤ Ls) {H : Heap} {locs : List Loc} {ls : Array Slot} {cells slots : Nat} (hI : LwI dC dI kX kT kM kV kC kN kJ kL kF kO kQ kG kw kv kR A s h1 h2 o j H locs) (hl : lv_has ls 7 [(4, .int (nI (6 * j))), (3, .ref o), (2, .ref h2), (1, .ref h1), (0, .ref b)])
    (hgo : ∀ (H : Heap) (locs : List Loc) (ls : Array Slot) (cells slots : Nat), LwI dC dI kX kT kM kV kC kN kJ kL kF kO kQ kG kw kv kR A s h1 h2 o (j + 1) H locs → lv_has ls 7 [(4, .int (nI (6 * j))), (3, .ref o), (2, .ref h2), (1, .ref h1), (0, .ref b)] → W p l e room_1 s m #[Value.ref b] below meth c H locs cells slots (lw_Z below #[Value.ref b] s) (F0 m 1507 ls [])) : W p l e room_1 s m #[Value.ref b] below meth c H locs cells slots (lw_Z below #[Value.ref b] s) (F0 m 664 ls []) := by
  obtain ⟨hx, hb, hr, hml, hown, hts, hX, hbl, hlocks, hgv⟩ := id C0
  have hb : c.code = cL_law := hb
  have hown : s.vm.findClass RL = some m.cls := hown
  obtain ⟨hA, hA2, hE, hT9, hNc, hKC, hKV, hKR⟩ := E0
  have hbA : ¬ A b := fun h => absurd (hA2 b h) (Nat.not_le.mpr hbl)
  obtain ⟨T, th, Fc, Fs, w, v, g, hC, hR, hT, hP, hD, hS, hz, hn⟩ := hI
  have hbd := hC.bd
  refine W.tight (cells2 := Fc + 1000 * j + 125) (slots2 := Fs + 9000 * j + 181434) hz hn ?_
  refine lv_aload_n hx hb dL_law_664 rfl (lv_at hl 3 rfl) ?_
  refine lv_aload_n hx hb dL_law_665 rfl (lv_at hl 1 rfl) ?_
  refine lawH_i (y := yL_count) (ws := wsH_count) (mc := 880) (ms := 8040) (As := [.ref h1, .ref o]) (rest := []) ⟨hx, hb, hml, hown, hts⟩ (H_count l hst dC dI kX kT kM kV kC kN kJ kL kF kO kQ kG kw h1 (((T.1 : Nat) : Int), T.2) Fc Fs w o kR g hC H.size) (vx_cwSW 2 hts gl_H_count rfl rfl rfl (by decide +kernel) ⟨Nat.le_of_ble_eq_true rfl, Nat.le_of_ble_eq_true rfl⟩) (hKR.app hKC) hE hNc hA hP hD hS rfl hl.1 (lv_room (Nat.le_of_ble_eq_true rfl)) dL_law_666 ⟨show Fc + 1000 * j + 125 + 880 ≤ 327717 by omega, show Fs + 9000 * j + 181434 + 8040 ≤ 8118330 by omega⟩ (fun r1 u H1 locs1 hp hP hD hS hz1 hs1 => ?_)
  obtain ⟨hC1, hL1⟩ := hp
  refine W.tight (cells2 := u.2.1 + 1000 * (j + 1) + 125) (slots2 := u.2.2.1 + 9000 * (j + 1) + 181434) (by omega) (by omega) ?_
  have hbd1 := hC1.bd
  refine lv_istore hx hb dL_law_669 hl (by decide) rfl (fun ls (hl : lv_has ls _ ([(5, .int r1), (4, .int (nI (6 * j))), (3, .ref o), (2, .ref h2), (1, .ref h1), (0, .ref b)])) => ?_)
  refine lv_aload_n hx hb dL_law_671 rfl (lv_at hl 3 rfl) ?_
  refine lawR_i (y := yX12_count) (ws := wsRX12_count) (mc := 0) (ms := 0) (As := []) (rest := []) ⟨hx, hb, hml, hown, hts⟩ (R_count l dC dI kv h2 T th v hR H1.size) (cwV 0 hts gl_R_count rfl rfl rfl (by decide +kernel) ⟨Nat.le_of_ble_eq_true rfl, Nat.le_of_ble_eq_true rfl⟩) hR.recv hKV hT9 hA hP hD hS rfl hl.1 (lv_room (Nat.le_of_ble_eq_true rfl)) dL_law_672 ⟨show u.2.1 + 1000 * (j + 1) + 125 + 0 ≤ 327717 by omega, show u.2.2.1 + 9000 * (j + 1) + 181434 + 0 ≤ 8118330 by omega⟩ (fun r2 u2 H2 locs2 hp2 hP hD hS => ?_)
  obtain ⟨hR2, hT2⟩ := hp2
  refine lv_istore hx hb dL_law_675 hl (by decide) rfl (fun ls (hl : lv_has ls _ ([(6, .int r2), (5, .int r1), (4, .int (nI (6 * j))), (3, .ref o), (2, .ref h2), (1, .ref h1), (0, .ref b)])) => ?_)
  refine lv_goto (tgt := 1507) hx hb dL_law_677 (by decide) ?_
  refine W.known (fun z1 z2 => ?_)
  have hTT : (((((u2.1.1 : Nat) : Int), u2.1.2) : LT) = u.1 ∧ u2.1.1 ≤ 20 * (j + 1)) := ⟨by rw [hL1, hT2] <;> rfl, by rw [hT2]; first | omega | (dsimp only; omega)⟩
  exact hgo H2 locs2 ls _ _ ⟨u2.1, u2.2.1, u.2.1, u.2.2.1, u.2.2.2.1, u2.2.2, u.2.2.2.2, by rw [hTT.1]; exact hC1, hR2, hTT.2, hP, hD, hS, by omega, by omega⟩ (lv_sub hl [2, 3, 4, 5, 6] rfl)
set_option maxHeartbeats 4000000 in
set_option maxRecDepth 100000 in
/-- the law's case 14: counted -/
theorem lc_14 {p : Program} {e : Env} {s : State} {m : MethodId} {below : List Frame} {meth : Method} {c : Code} (l : Launch) (hst : l.stackTraces = false) {b Ls : Nat} {xs : Nat → Int32} (hLs : Ls ≤ 384) (C0 : lw_At p s m meth c b Ls xs) {A : Nat → Prop} (dC : Nat → ClassId) (dI : Nat → Nat → Nat) (kX : Nat → ClassId) (kT : Nat → ClassId) (kM : Nat → ClassId) (kV : Nat → ClassId) (kC : Nat → ClassId) (kN : Nat → ClassId) (kJ : Nat → ClassId) (kL : Nat → ClassId) (kF : Nat → ClassId) (kO : Nat → ClassId) (kQ : Nat → ClassId) (kG : Nat → ClassId) (kw : ClassId) (kv : Nat → ClassId) (kR : ClassId) (E0 : LwC dC dI kX kT kM kV kC kN kJ kL kF kO kQ kG kw kv kR A s) {h1 h2 o j : Nat} (hj : 6 * j + 6 ≤ Ls) {H : Heap} {locs : List Loc} {ls : Array Slot} {cells slots : Nat} (hI : LwI dC dI kX kT kM kV kC kN kJ kL kF kO kQ kG kw kv kR A s h1 h2 o j H locs) (hl : lv_has ls 7 [(4, .int (nI (6 * j))), (3, .ref o), (2, .ref h2), (1, .ref h1), (0, .ref b)])
    (hgo : ∀ (H : Heap) (locs : List Loc) (ls : Array Slot) (cells slots : Nat), LwI dC dI kX kT kM kV kC kN kJ kL kF kO kQ kG kw kv kR A s h1 h2 o (j + 1) H locs → lv_has ls 7 [(4, .int (nI (6 * j))), (3, .ref o), (2, .ref h2), (1, .ref h1), (0, .ref b)] → W p l e room_1 s m #[Value.ref b] below meth c H locs cells slots (lw_Z below #[Value.ref b] s) (F0 m 1507 ls [])) : W p l e room_1 s m #[Value.ref b] below meth c H locs cells slots (lw_Z below #[Value.ref b] s) (F0 m 680 ls []) := by
  obtain ⟨hx, hb, hr, hml, hown, hts, hX, hbl, hlocks, hgv⟩ := id C0
  have hb : c.code = cL_law := hb
  have hown : s.vm.findClass RL = some m.cls := hown
  obtain ⟨hA, hA2, hE, hT9, hNc, hKC, hKV, hKR⟩ := E0
  have hbA : ¬ A b := fun h => absurd (hA2 b h) (Nat.not_le.mpr hbl)
  obtain ⟨T, th, Fc, Fs, w, v, g, hC, hR, hT, hP, hD, hS, hz, hn⟩ := hI
  have hbd := hC.bd
  refine W.tight (cells2 := Fc + 1000 * j + 125) (slots2 := Fs + 9000 * j + 181434) hz hn ?_
  refine lv_aload_n hx hb dL_law_680 rfl (lv_at hl 3 rfl) ?_
  refine lw_arg hx hb hX hbl hbA hS (lv_at hl 4 rfl) (lv_at hl 0 rfl) 1 (by omega) hLs (by decide) dL_law_681 dL_law_682 dL_law_684 dL_law_685 dL_law_686 ?_
  refine lw_arg hx hb hX hbl hbA hS (lv_at hl 4 rfl) (lv_at hl 0 rfl) 2 (by omega) hLs (by decide) dL_law_687 dL_law_688 dL_law_690 dL_law_691 dL_law_692 ?_
  refine lv_aload_n hx hb dL_law_693 rfl (lv_at hl 1 rfl) ?_
  refine lawH_i (y := yL_counted) (ws := wsH_counted) (mc := 880) (ms := 8040) (As := [.ref h1, .int (xs (6 * j + 1)), .int (xs (6 * j + 2)), .ref o]) (rest := []) ⟨hx, hb, hml, hown, hts⟩ (H_counted l hst dC dI kX kT kM kV kC kN kJ kL kF kO kQ kG kw h1 (((T.1 : Nat) : Int), T.2) Fc Fs w (xs (6 * j + 1)) (xs (6 * j + 2)) o kR g hC H.size) (vx_cwSW 4 hts gl_H_counted rfl rfl rfl (by decide +kernel) ⟨Nat.le_of_ble_eq_true rfl, Nat.le_of_ble_eq_true rfl⟩) (hKR.app hKC) hE hNc hA hP hD hS rfl hl.1 (lv_room (Nat.le_of_ble_eq_true rfl)) dL_law_694 ⟨show Fc + 1000 * j + 125 + 880 ≤ 327717 by omega, show Fs + 9000 * j + 181434 + 8040 ≤ 8118330 by omega⟩ (fun r1 u H1 locs1 hp hP hD hS hz1 hs1 => ?_)
  obtain ⟨hC1, hL1⟩ := hp
  refine W.tight (cells2 := u.2.1 + 1000 * (j + 1) + 125) (slots2 := u.2.2.1 + 9000 * (j + 1) + 181434) (by omega) (by omega) ?_
  have hbd1 := hC1.bd
  refine lv_istore hx hb dL_law_697 hl (by decide) rfl (fun ls (hl : lv_has ls _ ([(5, .int r1), (4, .int (nI (6 * j))), (3, .ref o), (2, .ref h2), (1, .ref h1), (0, .ref b)])) => ?_)
  refine lv_aload_n hx hb dL_law_699 rfl (lv_at hl 3 rfl) ?_
  refine lw_arg hx hb hX hbl hbA hS (lv_at hl 5 rfl) (lv_at hl 1 rfl) 1 (by omega) hLs (by decide) dL_law_700 dL_law_701 dL_law_703 dL_law_704 dL_law_705 ?_
  refine lw_arg hx hb hX hbl hbA hS (lv_at hl 5 rfl) (lv_at hl 1 rfl) 2 (by omega) hLs (by decide) dL_law_706 dL_law_707 dL_law_709 dL_law_710 dL_law_711 ?_
  refine lawR_i (y := yX12_counted) (ws := wsRX12_counted) (mc := 0) (ms := 0) (As := [.int (xs (6 * j + 1)), .int (xs (6 * j + 2))]) (rest := []) ⟨hx, hb, hml, hown, hts⟩ (R_counted l dC dI kv h2 T th v (xs (6 * j + 1)) (xs (6 * j + 2)) hR H1.size) (cwV 2 hts gl_R_counted rfl rfl rfl (by decide +kernel) ⟨Nat.le_of_ble_eq_true rfl, Nat.le_of_ble_eq_true rfl⟩) hR.recv hKV hT9 hA hP hD hS rfl hl.1 (lv_room (Nat.le_of_ble_eq_true rfl)) dL_law_712 ⟨show u.2.1 + 1000 * (j + 1) + 125 + 0 ≤ 327717 by omega, show u.2.2.1 + 9000 * (j + 1) + 181434 + 0 ≤ 8118330 by omega⟩ (fun r2 u2 H2 locs2 hp2 hP hD hS => ?_)
  obtain ⟨hR2, hT2⟩ := hp2
  refine lv_istore hx hb dL_law_715 hl (by decide) rfl (fun ls (hl : lv_has ls _ ([(6, .int r2), (5, .int r1), (4, .int (nI (6 * j))), (3, .ref o), (2, .ref h2), (1, .ref h1), (0, .ref b)])) => ?_)
  refine lv_goto (tgt := 1507) hx hb dL_law_717 (by decide) ?_
  refine W.known (fun z1 z2 => ?_)
  have hTT : (((((u2.1.1 : Nat) : Int), u2.1.2) : LT) = u.1 ∧ u2.1.1 ≤ 20 * (j + 1)) := ⟨by rw [hL1, hT2] <;> rfl, by rw [hT2]; first | omega | (dsimp only; omega)⟩
  exact hgo H2 locs2 ls _ _ ⟨u2.1, u2.2.1, u.2.1, u.2.2.1, u.2.2.2.1, u2.2.2, u.2.2.2.2, by rw [hTT.1]; exact hC1, hR2, hTT.2, hP, hD, hS, by omega, by omega⟩ (lv_sub hl [2, 3, 4, 5, 6] rfl)
set_option maxHeartbeats 4000000 in
set_option maxRecDepth 100000 in
/-- the law's case 15: prove -/
theorem lc_15 {p : Program} {e : Env} {s : State} {m : MethodId} {below : List Frame} {meth : Method} {c : Code} (l : Launch) (hst : l.stackTraces = false) {b Ls : Nat} {xs : Nat → Int32} (hLs : Ls ≤ 384) (C0 : lw_At p s m meth c b Ls xs) {A : Nat → Prop} (dC : Nat → ClassId) (dI : Nat → Nat → Nat) (kX : Nat → ClassId) (kT : Nat → ClassId) (kM : Nat → ClassId) (kV : Nat → ClassId) (kC : Nat → ClassId) (kN : Nat → ClassId) (kJ : Nat → ClassId) (kL : Nat → ClassId) (kF : Nat → ClassId) (kO : Nat → ClassId) (kQ : Nat → ClassId) (kG : Nat → ClassId) (kw : ClassId) (kv : Nat → ClassId) (kR : ClassId) (E0 : LwC dC dI kX kT kM kV kC kN kJ kL kF kO kQ kG kw kv kR A s) {h1 h2 o j : Nat} (hj : 6 * j + 6 ≤ Ls) {H : Heap} {locs : List Loc} {ls : Array Slot} {cells slots : Nat} (hI : LwI dC dI kX kT kM kV kC kN kJ kL kF kO kQ kG kw kv kR A s h1 h2 o j H locs) (hl : lv_has ls 7 [(4, .int (nI (6 * j))), (3, .ref o), (2, .ref h2), (1, .ref h1), (0, .ref b)])
    (hgo : ∀ (H : Heap) (locs : List Loc) (ls : Array Slot) (cells slots : Nat), LwI dC dI kX kT kM kV kC kN kJ kL kF kO kQ kG kw kv kR A s h1 h2 o (j + 1) H locs → lv_has ls 7 [(4, .int (nI (6 * j))), (3, .ref o), (2, .ref h2), (1, .ref h1), (0, .ref b)] → W p l e room_1 s m #[Value.ref b] below meth c H locs cells slots (lw_Z below #[Value.ref b] s) (F0 m 1507 ls [])) : W p l e room_1 s m #[Value.ref b] below meth c H locs cells slots (lw_Z below #[Value.ref b] s) (F0 m 720 ls []) := by
  obtain ⟨hx, hb, hr, hml, hown, hts, hX, hbl, hlocks, hgv⟩ := id C0
  have hb : c.code = cL_law := hb
  have hown : s.vm.findClass RL = some m.cls := hown
  obtain ⟨hA, hA2, hE, hT9, hNc, hKC, hKV, hKR⟩ := E0
  have hbA : ¬ A b := fun h => absurd (hA2 b h) (Nat.not_le.mpr hbl)
  obtain ⟨T, th, Fc, Fs, w, v, g, hC, hR, hT, hP, hD, hS, hz, hn⟩ := hI
  have hbd := hC.bd
  refine W.tight (cells2 := Fc + 1000 * j + 125) (slots2 := Fs + 9000 * j + 181434) hz hn ?_
  refine lv_aload_n hx hb dL_law_720 rfl (lv_at hl 3 rfl) ?_
  refine lv_aload_n hx hb dL_law_721 rfl (lv_at hl 1 rfl) ?_
  refine lawH_i (y := yL_prove) (ws := wsH_prove) (mc := 970) (ms := 8915) (As := [.ref h1, .ref o]) (rest := []) ⟨hx, hb, hml, hown, hts⟩ (H_prove l hst dC dI kX kT kM kV kC kN kJ kL kF kO kQ kG kw h1 (((T.1 : Nat) : Int), T.2) Fc Fs w o kR g hC H.size) (vx_cwSW 2 hts gl_H_prove rfl rfl rfl (by decide +kernel) ⟨Nat.le_of_ble_eq_true rfl, Nat.le_of_ble_eq_true rfl⟩) (hKR.app hKC) hE hNc hA hP hD hS rfl hl.1 (lv_room (Nat.le_of_ble_eq_true rfl)) dL_law_722 ⟨show Fc + 1000 * j + 125 + 970 ≤ 327717 by omega, show Fs + 9000 * j + 181434 + 8915 ≤ 8118330 by omega⟩ (fun r1 u H1 locs1 hp hP hD hS hz1 hs1 => ?_)
  obtain ⟨hC1, hL1⟩ := hp
  refine W.tight (cells2 := u.2.1 + 1000 * (j + 1) + 125) (slots2 := u.2.2.1 + 9000 * (j + 1) + 181434) (by omega) (by omega) ?_
  have hbd1 := hC1.bd
  refine lv_istore hx hb dL_law_725 hl (by decide) rfl (fun ls (hl : lv_has ls _ ([(5, .int r1), (4, .int (nI (6 * j))), (3, .ref o), (2, .ref h2), (1, .ref h1), (0, .ref b)])) => ?_)
  refine lv_aload_n hx hb dL_law_727 rfl (lv_at hl 3 rfl) ?_
  refine lawR_i (y := yX12_prove) (ws := wsRX12_prove) (mc := 0) (ms := 0) (As := []) (rest := []) ⟨hx, hb, hml, hown, hts⟩ (R_prove l dC dI kv h2 T th v hR H1.size) (cwV 0 hts gl_R_prove rfl rfl rfl (by decide +kernel) ⟨Nat.le_of_ble_eq_true rfl, Nat.le_of_ble_eq_true rfl⟩) hR.recv hKV hT9 hA hP hD hS rfl hl.1 (lv_room (Nat.le_of_ble_eq_true rfl)) dL_law_728 ⟨show u.2.1 + 1000 * (j + 1) + 125 + 0 ≤ 327717 by omega, show u.2.2.1 + 9000 * (j + 1) + 181434 + 0 ≤ 8118330 by omega⟩ (fun r2 u2 H2 locs2 hp2 hP hD hS => ?_)
  obtain ⟨hR2, hT2⟩ := hp2
  refine lv_istore hx hb dL_law_731 hl (by decide) rfl (fun ls (hl : lv_has ls _ ([(6, .int r2), (5, .int r1), (4, .int (nI (6 * j))), (3, .ref o), (2, .ref h2), (1, .ref h1), (0, .ref b)])) => ?_)
  refine lv_goto (tgt := 1507) hx hb dL_law_733 (by decide) ?_
  refine W.known (fun z1 z2 => ?_)
  have hTT : (((((u2.1.1 : Nat) : Int), u2.1.2) : LT) = u.1 ∧ u2.1.1 ≤ 20 * (j + 1)) := ⟨by rw [hL1, hT2] <;> rfl, by rw [hT2]; first | omega | (dsimp only; omega)⟩
  exact hgo H2 locs2 ls _ _ ⟨u2.1, u2.2.1, u.2.1, u.2.2.1, u.2.2.2.1, u2.2.2, u.2.2.2.2, by rw [hTT.1]; exact hC1, hR2, hTT.2, hP, hD, hS, by omega, by omega⟩ (lv_sub hl [2, 3, 4, 5, 6] rfl)
set_option maxHeartbeats 4000000 in
set_option maxRecDepth 100000 in
/-- the law's case 16: need -/
theorem lc_16 {p : Program} {e : Env} {s : State} {m : MethodId} {below : List Frame} {meth : Method} {c : Code} (l : Launch) (hst : l.stackTraces = false) {b Ls : Nat} {xs : Nat → Int32} (hLs : Ls ≤ 384) (C0 : lw_At p s m meth c b Ls xs) {A : Nat → Prop} (dC : Nat → ClassId) (dI : Nat → Nat → Nat) (kX : Nat → ClassId) (kT : Nat → ClassId) (kM : Nat → ClassId) (kV : Nat → ClassId) (kC : Nat → ClassId) (kN : Nat → ClassId) (kJ : Nat → ClassId) (kL : Nat → ClassId) (kF : Nat → ClassId) (kO : Nat → ClassId) (kQ : Nat → ClassId) (kG : Nat → ClassId) (kw : ClassId) (kv : Nat → ClassId) (kR : ClassId) (E0 : LwC dC dI kX kT kM kV kC kN kJ kL kF kO kQ kG kw kv kR A s) {h1 h2 o j : Nat} (hj : 6 * j + 6 ≤ Ls) {H : Heap} {locs : List Loc} {ls : Array Slot} {cells slots : Nat} (hI : LwI dC dI kX kT kM kV kC kN kJ kL kF kO kQ kG kw kv kR A s h1 h2 o j H locs) (hl : lv_has ls 7 [(4, .int (nI (6 * j))), (3, .ref o), (2, .ref h2), (1, .ref h1), (0, .ref b)])
    (hgo : ∀ (H : Heap) (locs : List Loc) (ls : Array Slot) (cells slots : Nat), LwI dC dI kX kT kM kV kC kN kJ kL kF kO kQ kG kw kv kR A s h1 h2 o (j + 1) H locs → lv_has ls 7 [(4, .int (nI (6 * j))), (3, .ref o), (2, .ref h2), (1, .ref h1), (0, .ref b)] → W p l e room_1 s m #[Value.ref b] below meth c H locs cells slots (lw_Z below #[Value.ref b] s) (F0 m 1507 ls [])) : W p l e room_1 s m #[Value.ref b] below meth c H locs cells slots (lw_Z below #[Value.ref b] s) (F0 m 736 ls []) := by
  obtain ⟨hx, hb, hr, hml, hown, hts, hX, hbl, hlocks, hgv⟩ := id C0
  have hb : c.code = cL_law := hb
  have hown : s.vm.findClass RL = some m.cls := hown
  obtain ⟨hA, hA2, hE, hT9, hNc, hKC, hKV, hKR⟩ := E0
  have hbA : ¬ A b := fun h => absurd (hA2 b h) (Nat.not_le.mpr hbl)
  obtain ⟨T, th, Fc, Fs, w, v, g, hC, hR, hT, hP, hD, hS, hz, hn⟩ := hI
  have hbd := hC.bd
  refine W.tight (cells2 := Fc + 1000 * j + 125) (slots2 := Fs + 9000 * j + 181434) hz hn ?_
  refine lv_aload_n hx hb dL_law_736 rfl (lv_at hl 3 rfl) ?_
  refine lw_arg hx hb hX hbl hbA hS (lv_at hl 4 rfl) (lv_at hl 0 rfl) 1 (by omega) hLs (by decide) dL_law_737 dL_law_738 dL_law_740 dL_law_741 dL_law_742 ?_
  refine lw_arg hx hb hX hbl hbA hS (lv_at hl 4 rfl) (lv_at hl 0 rfl) 2 (by omega) hLs (by decide) dL_law_743 dL_law_744 dL_law_746 dL_law_747 dL_law_748 ?_
  refine lawC_i (y := yX11_need) (ws := wsU_need) (mc := 0) (ms := 0) (As := [.int (xs (6 * j + 1)), .int (xs (6 * j + 2))]) (rest := []) ⟨hx, hb, hml, hown, hts⟩ (U_need l hst dC dI kX kT kM kV kC kN kJ kL kF kO kQ kG kw h1 (((T.1 : Nat) : Int), T.2) Fc Fs w (xs (6 * j + 1)) (xs (6 * j + 2)) hC H.size) (cwV 2 hts gl_C_need rfl rfl rfl (by decide +kernel) ⟨Nat.le_of_ble_eq_true rfl, Nat.le_of_ble_eq_true rfl⟩) hC.recv hKC hE hA hP hD hS rfl hl.1 (lv_room (Nat.le_of_ble_eq_true rfl)) dL_law_749 ⟨show Fc + 1000 * j + 125 + 0 ≤ 327717 by omega, show Fs + 9000 * j + 181434 + 0 ≤ 8118330 by omega⟩ (fun r1 u H1 locs1 hp hP hD hS hz1 hs1 => ?_)
  obtain ⟨hC1, hL1⟩ := hp
  refine W.tight (cells2 := u.2.1 + 1000 * (j + 1) + 125) (slots2 := u.2.2.1 + 9000 * (j + 1) + 181434) (by omega) (by omega) ?_
  have hbd1 := hC1.bd
  refine lv_pop hx hb dL_law_752 rfl ?_
  refine lv_aload_n hx hb dL_law_753 rfl (lv_at hl 2 rfl) ?_
  refine lw_arg hx hb hX hbl hbA hS (lv_at hl 4 rfl) (lv_at hl 0 rfl) 1 (by omega) hLs (by decide) dL_law_754 dL_law_755 dL_law_757 dL_law_758 dL_law_759 ?_
  refine lw_arg hx hb hX hbl hbA hS (lv_at hl 4 rfl) (lv_at hl 0 rfl) 2 (by omega) hLs (by decide) dL_law_760 dL_law_761 dL_law_763 dL_law_764 dL_law_765 ?_
  refine lawR_i (y := yX12_need) (ws := wsRX12_need) (mc := 0) (ms := 0) (As := [.int (xs (6 * j + 1)), .int (xs (6 * j + 2))]) (rest := []) ⟨hx, hb, hml, hown, hts⟩ (R_need l dC dI kv h2 T th v (xs (6 * j + 1)) (xs (6 * j + 2)) hR H1.size) (cwV 2 hts gl_R_need rfl rfl rfl (by decide +kernel) ⟨Nat.le_of_ble_eq_true rfl, Nat.le_of_ble_eq_true rfl⟩) hR.recv hKV hT9 hA hP hD hS rfl hl.1 (lv_room (Nat.le_of_ble_eq_true rfl)) dL_law_766 ⟨show u.2.1 + 1000 * (j + 1) + 125 + 0 ≤ 327717 by omega, show u.2.2.1 + 9000 * (j + 1) + 181434 + 0 ≤ 8118330 by omega⟩ (fun r2 u2 H2 locs2 hp2 hP hD hS => ?_)
  obtain ⟨hR2, hT2⟩ := hp2
  refine lv_pop hx hb dL_law_769 rfl ?_
  refine lv_goto (tgt := 1507) hx hb dL_law_770 (by decide) ?_
  refine W.known (fun z1 z2 => ?_)
  have hTT : (((((u2.1.1 : Nat) : Int), u2.1.2) : LT) = u.1 ∧ u2.1.1 ≤ 20 * (j + 1)) := ⟨by rw [hL1, hT2] <;> rfl, by rw [hT2]; first | omega | (dsimp only; omega)⟩
  exact hgo H2 locs2 ls _ _ ⟨u2.1, u2.2.1, u.2.1, u.2.2.1, u.2.2.2, u2.2.2, g, by rw [hTT.1]; exact hC1, hR2, hTT.2, hP, hD, hS, by omega, by omega⟩ (lv_sub hl [0, 1, 2, 3, 4] rfl)
set_option maxHeartbeats 4000000 in
set_option maxRecDepth 100000 in
/-- the law's case 17: multiplier -/
theorem lc_17 {p : Program} {e : Env} {s : State} {m : MethodId} {below : List Frame} {meth : Method} {c : Code} (l : Launch) (hst : l.stackTraces = false) {b Ls : Nat} {xs : Nat → Int32} (hLs : Ls ≤ 384) (C0 : lw_At p s m meth c b Ls xs) {A : Nat → Prop} (dC : Nat → ClassId) (dI : Nat → Nat → Nat) (kX : Nat → ClassId) (kT : Nat → ClassId) (kM : Nat → ClassId) (kV : Nat → ClassId) (kC : Nat → ClassId) (kN : Nat → ClassId) (kJ : Nat → ClassId) (kL : Nat → ClassId) (kF : Nat → ClassId) (kO : Nat → ClassId) (kQ : Nat → ClassId) (kG : Nat → ClassId) (kw : ClassId) (kv : Nat → ClassId) (kR : ClassId) (E0 : LwC dC dI kX kT kM kV kC kN kJ kL kF kO kQ kG kw kv kR A s) {h1 h2 o j : Nat} (hj : 6 * j + 6 ≤ Ls) {H : Heap} {locs : List Loc} {ls : Array Slot} {cells slots : Nat} (hI : LwI dC dI kX kT kM kV kC kN kJ kL kF kO kQ kG kw kv kR A s h1 h2 o j H locs) (hl : lv_has ls 7 [(4, .int (nI (6 * j))), (3, .ref o), (2, .ref h2), (1, .ref h1), (0, .ref b)])
    (hgo : ∀ (H : Heap) (locs : List Loc) (ls : Array Slot) (cells slots : Nat), LwI dC dI kX kT kM kV kC kN kJ kL kF kO kQ kG kw kv kR A s h1 h2 o (j + 1) H locs → lv_has ls 7 [(4, .int (nI (6 * j))), (3, .ref o), (2, .ref h2), (1, .ref h1), (0, .ref b)] → W p l e room_1 s m #[Value.ref b] below meth c H locs cells slots (lw_Z below #[Value.ref b] s) (F0 m 1507 ls [])) : W p l e room_1 s m #[Value.ref b] below meth c H locs cells slots (lw_Z below #[Value.ref b] s) (F0 m 773 ls []) := by
  obtain ⟨hx, hb, hr, hml, hown, hts, hX, hbl, hlocks, hgv⟩ := id C0
  have hb : c.code = cL_law := hb
  have hown : s.vm.findClass RL = some m.cls := hown
  obtain ⟨hA, hA2, hE, hT9, hNc, hKC, hKV, hKR⟩ := E0
  have hbA : ¬ A b := fun h => absurd (hA2 b h) (Nat.not_le.mpr hbl)
  obtain ⟨T, th, Fc, Fs, w, v, g, hC, hR, hT, hP, hD, hS, hz, hn⟩ := hI
  have hbd := hC.bd
  refine W.tight (cells2 := Fc + 1000 * j + 125) (slots2 := Fs + 9000 * j + 181434) hz hn ?_
  refine lv_aload_n hx hb dL_law_773 rfl (lv_at hl 3 rfl) ?_
  refine lw_arg hx hb hX hbl hbA hS (lv_at hl 4 rfl) (lv_at hl 0 rfl) 1 (by omega) hLs (by decide) dL_law_774 dL_law_775 dL_law_777 dL_law_778 dL_law_779 ?_
  refine lv_aload_n hx hb dL_law_780 rfl (lv_at hl 1 rfl) ?_
  refine lawH_i (y := yL_multiplier) (ws := wsH_multiplier) (mc := 7501) (ms := 540000) (As := [.ref h1, .int (xs (6 * j + 1)), .ref o]) (rest := []) ⟨hx, hb, hml, hown, hts⟩ (H_multiplier l hst dC dI kX kT kM kV kC kN kJ kL kF kO kQ kG kw h1 (((T.1 : Nat) : Int), T.2) Fc Fs w (xs (6 * j + 1)) o kR g hC H.size) (vx_cwSW 3 hts gl_H_multiplier rfl rfl rfl (by decide +kernel) ⟨Nat.le_of_ble_eq_true rfl, Nat.le_of_ble_eq_true rfl⟩) (hKR.app hKC) hE hNc hA hP hD hS rfl hl.1 (lv_room (Nat.le_of_ble_eq_true rfl)) dL_law_781 ⟨show Fc + 1000 * j + 125 + 7501 ≤ 327717 by omega, show Fs + 9000 * j + 181434 + 540000 ≤ 8118330 by omega⟩ (fun r1 u H1 locs1 hp hP hD hS hz1 hs1 => ?_)
  obtain ⟨hC1, hL1⟩ := hp
  refine W.tight (cells2 := u.2.1 + 1000 * (j + 1) + 125) (slots2 := u.2.2.1 + 9000 * (j + 1) + 181434) (by omega) (by omega) ?_
  have hbd1 := hC1.bd
  refine lv_istore hx hb dL_law_784 hl (by decide) rfl (fun ls (hl : lv_has ls _ ([(5, .int r1), (4, .int (nI (6 * j))), (3, .ref o), (2, .ref h2), (1, .ref h1), (0, .ref b)])) => ?_)
  refine lv_aload_n hx hb dL_law_786 rfl (lv_at hl 3 rfl) ?_
  refine lw_arg hx hb hX hbl hbA hS (lv_at hl 5 rfl) (lv_at hl 1 rfl) 1 (by omega) hLs (by decide) dL_law_787 dL_law_788 dL_law_790 dL_law_791 dL_law_792 ?_
  refine lawR_i (y := yX12_multiplier) (ws := wsRX12_multiplier) (mc := 0) (ms := 0) (As := [.int (xs (6 * j + 1))]) (rest := []) ⟨hx, hb, hml, hown, hts⟩ (R_multiplier l dC dI kv h2 T th v (xs (6 * j + 1)) hR H1.size) (cwV 1 hts gl_R_multiplier rfl rfl rfl (by decide +kernel) ⟨Nat.le_of_ble_eq_true rfl, Nat.le_of_ble_eq_true rfl⟩) hR.recv hKV hT9 hA hP hD hS rfl hl.1 (lv_room (Nat.le_of_ble_eq_true rfl)) dL_law_793 ⟨show u.2.1 + 1000 * (j + 1) + 125 + 0 ≤ 327717 by omega, show u.2.2.1 + 9000 * (j + 1) + 181434 + 0 ≤ 8118330 by omega⟩ (fun r2 u2 H2 locs2 hp2 hP hD hS => ?_)
  obtain ⟨hR2, hT2⟩ := hp2
  refine lv_istore hx hb dL_law_796 hl (by decide) rfl (fun ls (hl : lv_has ls _ ([(6, .int r2), (5, .int r1), (4, .int (nI (6 * j))), (3, .ref o), (2, .ref h2), (1, .ref h1), (0, .ref b)])) => ?_)
  refine lv_goto (tgt := 1507) hx hb dL_law_798 (by decide) ?_
  refine W.known (fun z1 z2 => ?_)
  have hTT : (((((u2.1.1 : Nat) : Int), u2.1.2) : LT) = u.1 ∧ u2.1.1 ≤ 20 * (j + 1)) := ⟨by rw [hL1, hT2] <;> rfl, by rw [hT2]; first | omega | (dsimp only; omega)⟩
  exact hgo H2 locs2 ls _ _ ⟨u2.1, u2.2.1, u.2.1, u.2.2.1, u.2.2.2.1, u2.2.2, u.2.2.2.2, by rw [hTT.1]; exact hC1, hR2, hTT.2, hP, hD, hS, by omega, by omega⟩ (lv_sub hl [2, 3, 4, 5, 6] rfl)
set_option maxHeartbeats 4000000 in
set_option maxRecDepth 100000 in
/-- the law's case 18: letter -/
theorem lc_18 {p : Program} {e : Env} {s : State} {m : MethodId} {below : List Frame} {meth : Method} {c : Code} (l : Launch) (hst : l.stackTraces = false) {b Ls : Nat} {xs : Nat → Int32} (hLs : Ls ≤ 384) (C0 : lw_At p s m meth c b Ls xs) {A : Nat → Prop} (dC : Nat → ClassId) (dI : Nat → Nat → Nat) (kX : Nat → ClassId) (kT : Nat → ClassId) (kM : Nat → ClassId) (kV : Nat → ClassId) (kC : Nat → ClassId) (kN : Nat → ClassId) (kJ : Nat → ClassId) (kL : Nat → ClassId) (kF : Nat → ClassId) (kO : Nat → ClassId) (kQ : Nat → ClassId) (kG : Nat → ClassId) (kw : ClassId) (kv : Nat → ClassId) (kR : ClassId) (E0 : LwC dC dI kX kT kM kV kC kN kJ kL kF kO kQ kG kw kv kR A s) {h1 h2 o j : Nat} (hj : 6 * j + 6 ≤ Ls) {H : Heap} {locs : List Loc} {ls : Array Slot} {cells slots : Nat} (hI : LwI dC dI kX kT kM kV kC kN kJ kL kF kO kQ kG kw kv kR A s h1 h2 o j H locs) (hl : lv_has ls 7 [(4, .int (nI (6 * j))), (3, .ref o), (2, .ref h2), (1, .ref h1), (0, .ref b)])
    (hgo : ∀ (H : Heap) (locs : List Loc) (ls : Array Slot) (cells slots : Nat), LwI dC dI kX kT kM kV kC kN kJ kL kF kO kQ kG kw kv kR A s h1 h2 o (j + 1) H locs → lv_has ls 7 [(4, .int (nI (6 * j))), (3, .ref o), (2, .ref h2), (1, .ref h1), (0, .ref b)] → W p l e room_1 s m #[Value.ref b] below meth c H locs cells slots (lw_Z below #[Value.ref b] s) (F0 m 1507 ls [])) : W p l e room_1 s m #[Value.ref b] below meth c H locs cells slots (lw_Z below #[Value.ref b] s) (F0 m 801 ls []) := by
  obtain ⟨hx, hb, hr, hml, hown, hts, hX, hbl, hlocks, hgv⟩ := id C0
  have hb : c.code = cL_law := hb
  have hown : s.vm.findClass RL = some m.cls := hown
  obtain ⟨hA, hA2, hE, hT9, hNc, hKC, hKV, hKR⟩ := E0
  have hbA : ¬ A b := fun h => absurd (hA2 b h) (Nat.not_le.mpr hbl)
  obtain ⟨T, th, Fc, Fs, w, v, g, hC, hR, hT, hP, hD, hS, hz, hn⟩ := hI
  have hbd := hC.bd
  refine W.tight (cells2 := Fc + 1000 * j + 125) (slots2 := Fs + 9000 * j + 181434) hz hn ?_
  refine lv_aload_n hx hb dL_law_801 rfl (lv_at hl 3 rfl) ?_
  refine lw_arg hx hb hX hbl hbA hS (lv_at hl 4 rfl) (lv_at hl 0 rfl) 1 (by omega) hLs (by decide) dL_law_802 dL_law_803 dL_law_805 dL_law_806 dL_law_807 ?_
  refine lawC_i (y := yX11_letter) (ws := wsU_letter) (mc := 0) (ms := 0) (As := [.int (xs (6 * j + 1))]) (rest := []) ⟨hx, hb, hml, hown, hts⟩ (U_letter l hst dC dI kX kT kM kV kC kN kJ kL kF kO kQ kG kw h1 (((T.1 : Nat) : Int), T.2) Fc Fs w (xs (6 * j + 1)) hC H.size) (cwV 1 hts gl_C_letter rfl rfl rfl (by decide +kernel) ⟨Nat.le_of_ble_eq_true rfl, Nat.le_of_ble_eq_true rfl⟩) hC.recv hKC hE hA hP hD hS rfl hl.1 (lv_room (Nat.le_of_ble_eq_true rfl)) dL_law_808 ⟨show Fc + 1000 * j + 125 + 0 ≤ 327717 by omega, show Fs + 9000 * j + 181434 + 0 ≤ 8118330 by omega⟩ (fun r1 u H1 locs1 hp hP hD hS hz1 hs1 => ?_)
  obtain ⟨hC1, hL1⟩ := hp
  refine W.tight (cells2 := u.2.1 + 1000 * (j + 1) + 125) (slots2 := u.2.2.1 + 9000 * (j + 1) + 181434) (by omega) (by omega) ?_
  have hbd1 := hC1.bd
  refine lv_pop hx hb dL_law_811 rfl ?_
  refine lv_aload_n hx hb dL_law_812 rfl (lv_at hl 2 rfl) ?_
  refine lw_arg hx hb hX hbl hbA hS (lv_at hl 4 rfl) (lv_at hl 0 rfl) 1 (by omega) hLs (by decide) dL_law_813 dL_law_814 dL_law_816 dL_law_817 dL_law_818 ?_
  refine lawR_i (y := yX12_letter) (ws := wsRX12_letter) (mc := 0) (ms := 0) (As := [.int (xs (6 * j + 1))]) (rest := []) ⟨hx, hb, hml, hown, hts⟩ (R_letter l dC dI kv h2 T th v (xs (6 * j + 1)) hR H1.size) (cwV 1 hts gl_R_letter rfl rfl rfl (by decide +kernel) ⟨Nat.le_of_ble_eq_true rfl, Nat.le_of_ble_eq_true rfl⟩) hR.recv hKV hT9 hA hP hD hS rfl hl.1 (lv_room (Nat.le_of_ble_eq_true rfl)) dL_law_819 ⟨show u.2.1 + 1000 * (j + 1) + 125 + 0 ≤ 327717 by omega, show u.2.2.1 + 9000 * (j + 1) + 181434 + 0 ≤ 8118330 by omega⟩ (fun r2 u2 H2 locs2 hp2 hP hD hS => ?_)
  obtain ⟨hR2, hT2⟩ := hp2
  refine lv_pop hx hb dL_law_822 rfl ?_
  refine lv_goto (tgt := 1507) hx hb dL_law_823 (by decide) ?_
  refine W.known (fun z1 z2 => ?_)
  have hTT : (((((u2.1.1 : Nat) : Int), u2.1.2) : LT) = u.1 ∧ u2.1.1 ≤ 20 * (j + 1)) := ⟨by rw [hL1, hT2] <;> rfl, by rw [hT2]; first | omega | (dsimp only; omega)⟩
  exact hgo H2 locs2 ls _ _ ⟨u2.1, u2.2.1, u.2.1, u.2.2.1, u.2.2.2, u2.2.2, g, by rw [hTT.1]; exact hC1, hR2, hTT.2, hP, hD, hS, by omega, by omega⟩ (lv_sub hl [0, 1, 2, 3, 4] rfl)
set_option maxHeartbeats 4000000 in
set_option maxRecDepth 100000 in
/-- the law's case 19: about -/
theorem lc_19 {p : Program} {e : Env} {s : State} {m : MethodId} {below : List Frame} {meth : Method} {c : Code} (l : Launch) (hst : l.stackTraces = false) {b Ls : Nat} {xs : Nat → Int32} (hLs : Ls ≤ 384) (C0 : lw_At p s m meth c b Ls xs) {A : Nat → Prop} (dC : Nat → ClassId) (dI : Nat → Nat → Nat) (kX : Nat → ClassId) (kT : Nat → ClassId) (kM : Nat → ClassId) (kV : Nat → ClassId) (kC : Nat → ClassId) (kN : Nat → ClassId) (kJ : Nat → ClassId) (kL : Nat → ClassId) (kF : Nat → ClassId) (kO : Nat → ClassId) (kQ : Nat → ClassId) (kG : Nat → ClassId) (kw : ClassId) (kv : Nat → ClassId) (kR : ClassId) (E0 : LwC dC dI kX kT kM kV kC kN kJ kL kF kO kQ kG kw kv kR A s) {h1 h2 o j : Nat} (hj : 6 * j + 6 ≤ Ls) {H : Heap} {locs : List Loc} {ls : Array Slot} {cells slots : Nat} (hI : LwI dC dI kX kT kM kV kC kN kJ kL kF kO kQ kG kw kv kR A s h1 h2 o j H locs) (hl : lv_has ls 7 [(4, .int (nI (6 * j))), (3, .ref o), (2, .ref h2), (1, .ref h1), (0, .ref b)])
    (hgo : ∀ (H : Heap) (locs : List Loc) (ls : Array Slot) (cells slots : Nat), LwI dC dI kX kT kM kV kC kN kJ kL kF kO kQ kG kw kv kR A s h1 h2 o (j + 1) H locs → lv_has ls 7 [(4, .int (nI (6 * j))), (3, .ref o), (2, .ref h2), (1, .ref h1), (0, .ref b)] → W p l e room_1 s m #[Value.ref b] below meth c H locs cells slots (lw_Z below #[Value.ref b] s) (F0 m 1507 ls [])) : W p l e room_1 s m #[Value.ref b] below meth c H locs cells slots (lw_Z below #[Value.ref b] s) (F0 m 826 ls []) := by
  obtain ⟨hx, hb, hr, hml, hown, hts, hX, hbl, hlocks, hgv⟩ := id C0
  have hb : c.code = cL_law := hb
  have hown : s.vm.findClass RL = some m.cls := hown
  obtain ⟨hA, hA2, hE, hT9, hNc, hKC, hKV, hKR⟩ := E0
  have hbA : ¬ A b := fun h => absurd (hA2 b h) (Nat.not_le.mpr hbl)
  obtain ⟨T, th, Fc, Fs, w, v, g, hC, hR, hT, hP, hD, hS, hz, hn⟩ := hI
  have hbd := hC.bd
  refine W.tight (cells2 := Fc + 1000 * j + 125) (slots2 := Fs + 9000 * j + 181434) hz hn ?_
  refine lv_aload_n hx hb dL_law_826 rfl (lv_at hl 3 rfl) ?_
  refine lw_arg hx hb hX hbl hbA hS (lv_at hl 4 rfl) (lv_at hl 0 rfl) 1 (by omega) hLs (by decide) dL_law_827 dL_law_828 dL_law_830 dL_law_831 dL_law_832 ?_
  refine lawC_i (y := yX11_about) (ws := wsU_about) (mc := 0) (ms := 0) (As := [.int (xs (6 * j + 1))]) (rest := []) ⟨hx, hb, hml, hown, hts⟩ (U_about l hst dC dI kX kT kM kV kC kN kJ kL kF kO kQ kG kw h1 (((T.1 : Nat) : Int), T.2) Fc Fs w (xs (6 * j + 1)) hC H.size) (cwV 1 hts gl_C_about rfl rfl rfl (by decide +kernel) ⟨Nat.le_of_ble_eq_true rfl, Nat.le_of_ble_eq_true rfl⟩) hC.recv hKC hE hA hP hD hS rfl hl.1 (lv_room (Nat.le_of_ble_eq_true rfl)) dL_law_833 ⟨show Fc + 1000 * j + 125 + 0 ≤ 327717 by omega, show Fs + 9000 * j + 181434 + 0 ≤ 8118330 by omega⟩ (fun r1 u H1 locs1 hp hP hD hS hz1 hs1 => ?_)
  obtain ⟨hC1, hL1⟩ := hp
  refine W.tight (cells2 := u.2.1 + 1000 * (j + 1) + 125) (slots2 := u.2.2.1 + 9000 * (j + 1) + 181434) (by omega) (by omega) ?_
  have hbd1 := hC1.bd
  refine lv_pop hx hb dL_law_836 rfl ?_
  refine lv_aload_n hx hb dL_law_837 rfl (lv_at hl 2 rfl) ?_
  refine lw_arg hx hb hX hbl hbA hS (lv_at hl 4 rfl) (lv_at hl 0 rfl) 1 (by omega) hLs (by decide) dL_law_838 dL_law_839 dL_law_841 dL_law_842 dL_law_843 ?_
  refine lawR_i (y := yX12_about) (ws := wsRX12_about) (mc := 0) (ms := 0) (As := [.int (xs (6 * j + 1))]) (rest := []) ⟨hx, hb, hml, hown, hts⟩ (R_about l dC dI kv h2 T th v (xs (6 * j + 1)) hR H1.size) (cwV 1 hts gl_R_about rfl rfl rfl (by decide +kernel) ⟨Nat.le_of_ble_eq_true rfl, Nat.le_of_ble_eq_true rfl⟩) hR.recv hKV hT9 hA hP hD hS rfl hl.1 (lv_room (Nat.le_of_ble_eq_true rfl)) dL_law_844 ⟨show u.2.1 + 1000 * (j + 1) + 125 + 0 ≤ 327717 by omega, show u.2.2.1 + 9000 * (j + 1) + 181434 + 0 ≤ 8118330 by omega⟩ (fun r2 u2 H2 locs2 hp2 hP hD hS => ?_)
  obtain ⟨hR2, hT2⟩ := hp2
  refine lv_pop hx hb dL_law_847 rfl ?_
  refine lv_goto (tgt := 1507) hx hb dL_law_848 (by decide) ?_
  refine W.known (fun z1 z2 => ?_)
  have hTT : (((((u2.1.1 : Nat) : Int), u2.1.2) : LT) = u.1 ∧ u2.1.1 ≤ 20 * (j + 1)) := ⟨by rw [hL1, hT2] <;> rfl, by rw [hT2]; first | omega | (dsimp only; omega)⟩
  exact hgo H2 locs2 ls _ _ ⟨u2.1, u2.2.1, u.2.1, u.2.2.1, u.2.2.2, u2.2.2, g, by rw [hTT.1]; exact hC1, hR2, hTT.2, hP, hD, hS, by omega, by omega⟩ (lv_sub hl [0, 1, 2, 3, 4] rfl)
set_option maxHeartbeats 4000000 in
set_option maxRecDepth 100000 in
/-- the law's case 20: holder -/
theorem lc_20 {p : Program} {e : Env} {s : State} {m : MethodId} {below : List Frame} {meth : Method} {c : Code} (l : Launch) (hst : l.stackTraces = false) {b Ls : Nat} {xs : Nat → Int32} (hLs : Ls ≤ 384) (C0 : lw_At p s m meth c b Ls xs) {A : Nat → Prop} (dC : Nat → ClassId) (dI : Nat → Nat → Nat) (kX : Nat → ClassId) (kT : Nat → ClassId) (kM : Nat → ClassId) (kV : Nat → ClassId) (kC : Nat → ClassId) (kN : Nat → ClassId) (kJ : Nat → ClassId) (kL : Nat → ClassId) (kF : Nat → ClassId) (kO : Nat → ClassId) (kQ : Nat → ClassId) (kG : Nat → ClassId) (kw : ClassId) (kv : Nat → ClassId) (kR : ClassId) (E0 : LwC dC dI kX kT kM kV kC kN kJ kL kF kO kQ kG kw kv kR A s) {h1 h2 o j : Nat} (hj : 6 * j + 6 ≤ Ls) {H : Heap} {locs : List Loc} {ls : Array Slot} {cells slots : Nat} (hI : LwI dC dI kX kT kM kV kC kN kJ kL kF kO kQ kG kw kv kR A s h1 h2 o j H locs) (hl : lv_has ls 7 [(4, .int (nI (6 * j))), (3, .ref o), (2, .ref h2), (1, .ref h1), (0, .ref b)])
    (hgo : ∀ (H : Heap) (locs : List Loc) (ls : Array Slot) (cells slots : Nat), LwI dC dI kX kT kM kV kC kN kJ kL kF kO kQ kG kw kv kR A s h1 h2 o (j + 1) H locs → lv_has ls 7 [(4, .int (nI (6 * j))), (3, .ref o), (2, .ref h2), (1, .ref h1), (0, .ref b)] → W p l e room_1 s m #[Value.ref b] below meth c H locs cells slots (lw_Z below #[Value.ref b] s) (F0 m 1507 ls [])) : W p l e room_1 s m #[Value.ref b] below meth c H locs cells slots (lw_Z below #[Value.ref b] s) (F0 m 851 ls []) := by
  obtain ⟨hx, hb, hr, hml, hown, hts, hX, hbl, hlocks, hgv⟩ := id C0
  have hb : c.code = cL_law := hb
  have hown : s.vm.findClass RL = some m.cls := hown
  obtain ⟨hA, hA2, hE, hT9, hNc, hKC, hKV, hKR⟩ := E0
  have hbA : ¬ A b := fun h => absurd (hA2 b h) (Nat.not_le.mpr hbl)
  obtain ⟨T, th, Fc, Fs, w, v, g, hC, hR, hT, hP, hD, hS, hz, hn⟩ := hI
  have hbd := hC.bd
  refine W.tight (cells2 := Fc + 1000 * j + 125) (slots2 := Fs + 9000 * j + 181434) hz hn ?_
  refine lv_aload_n hx hb dL_law_851 rfl (lv_at hl 3 rfl) ?_
  refine lw_arg hx hb hX hbl hbA hS (lv_at hl 4 rfl) (lv_at hl 0 rfl) 1 (by omega) hLs (by decide) dL_law_852 dL_law_853 dL_law_855 dL_law_856 dL_law_857 ?_
  refine lv_aload_n hx hb dL_law_858 rfl (lv_at hl 1 rfl) ?_
  refine lawH_i (y := yL_holder) (ws := wsH_holder) (mc := 16) (ms := 1414) (As := [.ref h1, .int (xs (6 * j + 1)), .ref o]) (rest := []) ⟨hx, hb, hml, hown, hts⟩ (H_holder l hst dC dI kX kT kM kV kC kN kJ kL kF kO kQ kG kw h1 (((T.1 : Nat) : Int), T.2) Fc Fs w (xs (6 * j + 1)) o kR g hC H.size) (vx_cwSW 3 hts gl_H_holder rfl rfl rfl (by decide +kernel) ⟨Nat.le_of_ble_eq_true rfl, Nat.le_of_ble_eq_true rfl⟩) (hKR.app hKC) hE hNc hA hP hD hS rfl hl.1 (lv_room (Nat.le_of_ble_eq_true rfl)) dL_law_859 ⟨show Fc + 1000 * j + 125 + 16 ≤ 327717 by omega, show Fs + 9000 * j + 181434 + 1414 ≤ 8118330 by omega⟩ (fun r1 u H1 locs1 hp hP hD hS hz1 hs1 => ?_)
  obtain ⟨hC1, hL1⟩ := hp
  refine W.tight (cells2 := u.2.1 + 1000 * (j + 1) + 125) (slots2 := u.2.2.1 + 9000 * (j + 1) + 181434) (by omega) (by omega) ?_
  have hbd1 := hC1.bd
  refine lv_istore hx hb dL_law_862 hl (by decide) rfl (fun ls (hl : lv_has ls _ ([(5, .int r1), (4, .int (nI (6 * j))), (3, .ref o), (2, .ref h2), (1, .ref h1), (0, .ref b)])) => ?_)
  refine lv_aload_n hx hb dL_law_864 rfl (lv_at hl 3 rfl) ?_
  refine lw_arg hx hb hX hbl hbA hS (lv_at hl 5 rfl) (lv_at hl 1 rfl) 1 (by omega) hLs (by decide) dL_law_865 dL_law_866 dL_law_868 dL_law_869 dL_law_870 ?_
  refine lawR_i (y := yX12_holder) (ws := wsRX12_holder) (mc := 0) (ms := 0) (As := [.int (xs (6 * j + 1))]) (rest := []) ⟨hx, hb, hml, hown, hts⟩ (R_holder l dC dI kv h2 T th v (xs (6 * j + 1)) hR H1.size) (cwV 1 hts gl_R_holder rfl rfl rfl (by decide +kernel) ⟨Nat.le_of_ble_eq_true rfl, Nat.le_of_ble_eq_true rfl⟩) hR.recv hKV hT9 hA hP hD hS rfl hl.1 (lv_room (Nat.le_of_ble_eq_true rfl)) dL_law_871 ⟨show u.2.1 + 1000 * (j + 1) + 125 + 0 ≤ 327717 by omega, show u.2.2.1 + 9000 * (j + 1) + 181434 + 0 ≤ 8118330 by omega⟩ (fun r2 u2 H2 locs2 hp2 hP hD hS => ?_)
  obtain ⟨hR2, hT2⟩ := hp2
  refine lv_istore hx hb dL_law_874 hl (by decide) rfl (fun ls (hl : lv_has ls _ ([(6, .int r2), (5, .int r1), (4, .int (nI (6 * j))), (3, .ref o), (2, .ref h2), (1, .ref h1), (0, .ref b)])) => ?_)
  refine lv_goto (tgt := 1507) hx hb dL_law_876 (by decide) ?_
  refine W.known (fun z1 z2 => ?_)
  have hTT : (((((u2.1.1 : Nat) : Int), u2.1.2) : LT) = u.1 ∧ u2.1.1 ≤ 20 * (j + 1)) := by
    rcases lw3 (n := T.2.2.2.1) (m := T.2.2.2.1) rfl hL1 hT2 with ⟨⟨a1, _⟩, a2, _⟩ | ⟨⟨a1, _⟩, a2, _⟩ | ⟨⟨a1, _⟩, a2, _⟩
    · exact ⟨by rw [a1, a2] <;> rfl, by rw [a2]; first | omega | (dsimp only; omega)⟩
    · exact ⟨by rw [a1, a2] <;> rfl, by rw [a2]; first | omega | (dsimp only; omega)⟩
    · exact ⟨by rw [a1, a2] <;> rfl, by rw [a2]; first | omega | (dsimp only; omega)⟩
  exact hgo H2 locs2 ls _ _ ⟨u2.1, u2.2.1, u.2.1, u.2.2.1, u.2.2.2.1, u2.2.2, u.2.2.2.2, by rw [hTT.1]; exact hC1, hR2, hTT.2, hP, hD, hS, by omega, by omega⟩ (lv_sub hl [2, 3, 4, 5, 6] rfl)
set_option maxHeartbeats 4000000 in
set_option maxRecDepth 100000 in
/-- the law's case 21: rule -/
theorem lc_21 {p : Program} {e : Env} {s : State} {m : MethodId} {below : List Frame} {meth : Method} {c : Code} (l : Launch) (hst : l.stackTraces = false) {b Ls : Nat} {xs : Nat → Int32} (hLs : Ls ≤ 384) (C0 : lw_At p s m meth c b Ls xs) {A : Nat → Prop} (dC : Nat → ClassId) (dI : Nat → Nat → Nat) (kX : Nat → ClassId) (kT : Nat → ClassId) (kM : Nat → ClassId) (kV : Nat → ClassId) (kC : Nat → ClassId) (kN : Nat → ClassId) (kJ : Nat → ClassId) (kL : Nat → ClassId) (kF : Nat → ClassId) (kO : Nat → ClassId) (kQ : Nat → ClassId) (kG : Nat → ClassId) (kw : ClassId) (kv : Nat → ClassId) (kR : ClassId) (E0 : LwC dC dI kX kT kM kV kC kN kJ kL kF kO kQ kG kw kv kR A s) {h1 h2 o j : Nat} (hj : 6 * j + 6 ≤ Ls) {H : Heap} {locs : List Loc} {ls : Array Slot} {cells slots : Nat} (hI : LwI dC dI kX kT kM kV kC kN kJ kL kF kO kQ kG kw kv kR A s h1 h2 o j H locs) (hl : lv_has ls 7 [(4, .int (nI (6 * j))), (3, .ref o), (2, .ref h2), (1, .ref h1), (0, .ref b)])
    (hgo : ∀ (H : Heap) (locs : List Loc) (ls : Array Slot) (cells slots : Nat), LwI dC dI kX kT kM kV kC kN kJ kL kF kO kQ kG kw kv kR A s h1 h2 o (j + 1) H locs → lv_has ls 7 [(4, .int (nI (6 * j))), (3, .ref o), (2, .ref h2), (1, .ref h1), (0, .ref b)] → W p l e room_1 s m #[Value.ref b] below meth c H locs cells slots (lw_Z below #[Value.ref b] s) (F0 m 1507 ls [])) : W p l e room_1 s m #[Value.ref b] below meth c H locs cells slots (lw_Z below #[Value.ref b] s) (F0 m 879 ls []) := by
  obtain ⟨hx, hb, hr, hml, hown, hts, hX, hbl, hlocks, hgv⟩ := id C0
  have hb : c.code = cL_law := hb
  have hown : s.vm.findClass RL = some m.cls := hown
  obtain ⟨hA, hA2, hE, hT9, hNc, hKC, hKV, hKR⟩ := E0
  have hbA : ¬ A b := fun h => absurd (hA2 b h) (Nat.not_le.mpr hbl)
  obtain ⟨T, th, Fc, Fs, w, v, g, hC, hR, hT, hP, hD, hS, hz, hn⟩ := hI
  have hbd := hC.bd
  refine W.tight (cells2 := Fc + 1000 * j + 125) (slots2 := Fs + 9000 * j + 181434) hz hn ?_
  refine lv_aload_n hx hb dL_law_879 rfl (lv_at hl 3 rfl) ?_
  refine lw_arg hx hb hX hbl hbA hS (lv_at hl 4 rfl) (lv_at hl 0 rfl) 1 (by omega) hLs (by decide) dL_law_880 dL_law_881 dL_law_883 dL_law_884 dL_law_885 ?_
  refine lw_arg hx hb hX hbl hbA hS (lv_at hl 4 rfl) (lv_at hl 0 rfl) 2 (by omega) hLs (by decide) dL_law_886 dL_law_887 dL_law_889 dL_law_890 dL_law_891 ?_
  refine lw_arg hx hb hX hbl hbA hS (lv_at hl 4 rfl) (lv_at hl 0 rfl) 3 (by omega) hLs (by decide) dL_law_892 dL_law_893 dL_law_895 dL_law_896 dL_law_897 ?_
  refine lw_arg hx hb hX hbl hbA hS (lv_at hl 4 rfl) (lv_at hl 0 rfl) 4 (by omega) hLs (by decide) dL_law_898 dL_law_899 dL_law_901 dL_law_902 dL_law_903 ?_
  refine lv_aload_n hx hb dL_law_904 rfl (lv_at hl 1 rfl) ?_
  refine lawH_i (y := yL_rule) (ws := wsH_rule) (mc := 16) (ms := 1414) (As := [.ref h1, .int (xs (6 * j + 1)), .int (xs (6 * j + 2)), .int (xs (6 * j + 3)), .int (xs (6 * j + 4)), .ref o]) (rest := []) ⟨hx, hb, hml, hown, hts⟩ (H_rule l hst dC dI kX kT kM kV kC kN kJ kL kF kO kQ kG kw h1 (((T.1 : Nat) : Int), T.2) Fc Fs w (xs (6 * j + 1)) (xs (6 * j + 2)) (xs (6 * j + 3)) (xs (6 * j + 4)) o kR g hC H.size) (vx_cwSW 6 hts gl_H_rule rfl rfl rfl (by decide +kernel) ⟨Nat.le_of_ble_eq_true rfl, Nat.le_of_ble_eq_true rfl⟩) (hKR.app hKC) hE hNc hA hP hD hS rfl hl.1 (lv_room (Nat.le_of_ble_eq_true rfl)) dL_law_905 ⟨show Fc + 1000 * j + 125 + 16 ≤ 327717 by omega, show Fs + 9000 * j + 181434 + 1414 ≤ 8118330 by omega⟩ (fun r1 u H1 locs1 hp hP hD hS hz1 hs1 => ?_)
  obtain ⟨hC1, hL1⟩ := hp
  refine W.tight (cells2 := u.2.1 + 1000 * (j + 1) + 125) (slots2 := u.2.2.1 + 9000 * (j + 1) + 181434) (by omega) (by omega) ?_
  have hbd1 := hC1.bd
  refine lv_istore hx hb dL_law_908 hl (by decide) rfl (fun ls (hl : lv_has ls _ ([(5, .int r1), (4, .int (nI (6 * j))), (3, .ref o), (2, .ref h2), (1, .ref h1), (0, .ref b)])) => ?_)
  refine lv_aload_n hx hb dL_law_910 rfl (lv_at hl 3 rfl) ?_
  refine lw_arg hx hb hX hbl hbA hS (lv_at hl 5 rfl) (lv_at hl 1 rfl) 1 (by omega) hLs (by decide) dL_law_911 dL_law_912 dL_law_914 dL_law_915 dL_law_916 ?_
  refine lw_arg hx hb hX hbl hbA hS (lv_at hl 5 rfl) (lv_at hl 1 rfl) 2 (by omega) hLs (by decide) dL_law_917 dL_law_918 dL_law_920 dL_law_921 dL_law_922 ?_
  refine lw_arg hx hb hX hbl hbA hS (lv_at hl 5 rfl) (lv_at hl 1 rfl) 3 (by omega) hLs (by decide) dL_law_923 dL_law_924 dL_law_926 dL_law_927 dL_law_928 ?_
  refine lw_arg hx hb hX hbl hbA hS (lv_at hl 5 rfl) (lv_at hl 1 rfl) 4 (by omega) hLs (by decide) dL_law_929 dL_law_930 dL_law_932 dL_law_933 dL_law_934 ?_
  refine lawR_i (y := yX12_rule) (ws := wsRX12_rule) (mc := 0) (ms := 0) (As := [.int (xs (6 * j + 1)), .int (xs (6 * j + 2)), .int (xs (6 * j + 3)), .int (xs (6 * j + 4))]) (rest := []) ⟨hx, hb, hml, hown, hts⟩ (R_rule l dC dI kv h2 T th v (xs (6 * j + 1)) (xs (6 * j + 2)) (xs (6 * j + 3)) (xs (6 * j + 4)) hR H1.size) (cwV 4 hts gl_R_rule rfl rfl rfl (by decide +kernel) ⟨Nat.le_of_ble_eq_true rfl, Nat.le_of_ble_eq_true rfl⟩) hR.recv hKV hT9 hA hP hD hS rfl hl.1 (lv_room (Nat.le_of_ble_eq_true rfl)) dL_law_935 ⟨show u.2.1 + 1000 * (j + 1) + 125 + 0 ≤ 327717 by omega, show u.2.2.1 + 9000 * (j + 1) + 181434 + 0 ≤ 8118330 by omega⟩ (fun r2 u2 H2 locs2 hp2 hP hD hS => ?_)
  obtain ⟨hR2, hT2⟩ := hp2
  refine lv_istore hx hb dL_law_938 hl (by decide) rfl (fun ls (hl : lv_has ls _ ([(6, .int r2), (5, .int r1), (4, .int (nI (6 * j))), (3, .ref o), (2, .ref h2), (1, .ref h1), (0, .ref b)])) => ?_)
  refine lv_goto (tgt := 1507) hx hb dL_law_940 (by decide) ?_
  refine W.known (fun z1 z2 => ?_)
  have hTT : (((((u2.1.1 : Nat) : Int), u2.1.2) : LT) = u.1 ∧ u2.1.1 ≤ 20 * (j + 1)) := by
    obtain ⟨hI1, e1, hL1⟩ := hL1
    obtain ⟨hI2, e2, hT2⟩ := hT2
    obtain rfl : hI1 = hI2 := Int32.toInt_inj.mp (e1.trans e2.symm)
    rcases lw3 (n := T.2.2.2.2) (m := T.2.2.2.2) rfl hL1 hT2 with ⟨⟨a1, _⟩, a2, _⟩ | ⟨⟨a1, _⟩, a2, _⟩ | ⟨⟨a1, _⟩, a2, _⟩
    · exact ⟨by rw [a1, a2] <;> rfl, by rw [a2]; first | omega | (dsimp only; omega)⟩
    · exact ⟨by rw [a1, a2] <;> rfl, by rw [a2]; first | omega | (dsimp only; omega)⟩
    · exact ⟨by rw [a1, a2] <;> rfl, by rw [a2]; first | omega | (dsimp only; omega)⟩
  exact hgo H2 locs2 ls _ _ ⟨u2.1, u2.2.1, u.2.1, u.2.2.1, u.2.2.2.1, u2.2.2, u.2.2.2.2, by rw [hTT.1]; exact hC1, hR2, hTT.2, hP, hD, hS, by omega, by omega⟩ (lv_sub hl [2, 3, 4, 5, 6] rfl)
set_option maxHeartbeats 4000000 in
set_option maxRecDepth 100000 in
/-- the law's case 22: pair -/
theorem lc_22 {p : Program} {e : Env} {s : State} {m : MethodId} {below : List Frame} {meth : Method} {c : Code} (l : Launch) (hst : l.stackTraces = false) {b Ls : Nat} {xs : Nat → Int32} (hLs : Ls ≤ 384) (C0 : lw_At p s m meth c b Ls xs) {A : Nat → Prop} (dC : Nat → ClassId) (dI : Nat → Nat → Nat) (kX : Nat → ClassId) (kT : Nat → ClassId) (kM : Nat → ClassId) (kV : Nat → ClassId) (kC : Nat → ClassId) (kN : Nat → ClassId) (kJ : Nat → ClassId) (kL : Nat → ClassId) (kF : Nat → ClassId) (kO : Nat → ClassId) (kQ : Nat → ClassId) (kG : Nat → ClassId) (kw : ClassId) (kv : Nat → ClassId) (kR : ClassId) (E0 : LwC dC dI kX kT kM kV kC kN kJ kL kF kO kQ kG kw kv kR A s) {h1 h2 o j : Nat} (hj : 6 * j + 6 ≤ Ls) {H : Heap} {locs : List Loc} {ls : Array Slot} {cells slots : Nat} (hI : LwI dC dI kX kT kM kV kC kN kJ kL kF kO kQ kG kw kv kR A s h1 h2 o j H locs) (hl : lv_has ls 7 [(4, .int (nI (6 * j))), (3, .ref o), (2, .ref h2), (1, .ref h1), (0, .ref b)])
    (hgo : ∀ (H : Heap) (locs : List Loc) (ls : Array Slot) (cells slots : Nat), LwI dC dI kX kT kM kV kC kN kJ kL kF kO kQ kG kw kv kR A s h1 h2 o (j + 1) H locs → lv_has ls 7 [(4, .int (nI (6 * j))), (3, .ref o), (2, .ref h2), (1, .ref h1), (0, .ref b)] → W p l e room_1 s m #[Value.ref b] below meth c H locs cells slots (lw_Z below #[Value.ref b] s) (F0 m 1507 ls [])) : W p l e room_1 s m #[Value.ref b] below meth c H locs cells slots (lw_Z below #[Value.ref b] s) (F0 m 943 ls []) := by
  obtain ⟨hx, hb, hr, hml, hown, hts, hX, hbl, hlocks, hgv⟩ := id C0
  have hb : c.code = cL_law := hb
  have hown : s.vm.findClass RL = some m.cls := hown
  obtain ⟨hA, hA2, hE, hT9, hNc, hKC, hKV, hKR⟩ := E0
  have hbA : ¬ A b := fun h => absurd (hA2 b h) (Nat.not_le.mpr hbl)
  obtain ⟨T, th, Fc, Fs, w, v, g, hC, hR, hT, hP, hD, hS, hz, hn⟩ := hI
  have hbd := hC.bd
  refine W.tight (cells2 := Fc + 1000 * j + 125) (slots2 := Fs + 9000 * j + 181434) hz hn ?_
  refine lv_aload_n hx hb dL_law_943 rfl (lv_at hl 3 rfl) ?_
  refine lw_arg hx hb hX hbl hbA hS (lv_at hl 4 rfl) (lv_at hl 0 rfl) 1 (by omega) hLs (by decide) dL_law_944 dL_law_945 dL_law_947 dL_law_948 dL_law_949 ?_
  refine lw_arg hx hb hX hbl hbA hS (lv_at hl 4 rfl) (lv_at hl 0 rfl) 2 (by omega) hLs (by decide) dL_law_950 dL_law_951 dL_law_953 dL_law_954 dL_law_955 ?_
  refine lawC_i (y := yX11_pair) (ws := wsU_pair) (mc := 15) (ms := 1408) (As := [.int (xs (6 * j + 1)), .int (xs (6 * j + 2))]) (rest := []) ⟨hx, hb, hml, hown, hts⟩ (U_pair l hst dC dI kX kT kM kV kC kN kJ kL kF kO kQ kG kw h1 (((T.1 : Nat) : Int), T.2) Fc Fs w (xs (6 * j + 1)) (xs (6 * j + 2)) hC H.size) (cwV 2 hts gl_C_pair rfl rfl rfl (by decide +kernel) ⟨Nat.le_of_ble_eq_true rfl, Nat.le_of_ble_eq_true rfl⟩) hC.recv hKC hE hA hP hD hS rfl hl.1 (lv_room (Nat.le_of_ble_eq_true rfl)) dL_law_956 ⟨show Fc + 1000 * j + 125 + 15 ≤ 327717 by omega, show Fs + 9000 * j + 181434 + 1408 ≤ 8118330 by omega⟩ (fun r1 u H1 locs1 hp hP hD hS hz1 hs1 => ?_)
  obtain ⟨hC1, hL1⟩ := hp
  refine W.tight (cells2 := u.2.1 + 1000 * (j + 1) + 125) (slots2 := u.2.2.1 + 9000 * (j + 1) + 181434) (by omega) (by omega) ?_
  have hbd1 := hC1.bd
  refine lv_pop hx hb dL_law_959 rfl ?_
  refine lv_aload_n hx hb dL_law_960 rfl (lv_at hl 2 rfl) ?_
  refine lw_arg hx hb hX hbl hbA hS (lv_at hl 4 rfl) (lv_at hl 0 rfl) 1 (by omega) hLs (by decide) dL_law_961 dL_law_962 dL_law_964 dL_law_965 dL_law_966 ?_
  refine lw_arg hx hb hX hbl hbA hS (lv_at hl 4 rfl) (lv_at hl 0 rfl) 2 (by omega) hLs (by decide) dL_law_967 dL_law_968 dL_law_970 dL_law_971 dL_law_972 ?_
  refine lawR_i (y := yX12_pair) (ws := wsRX12_pair) (mc := 0) (ms := 0) (As := [.int (xs (6 * j + 1)), .int (xs (6 * j + 2))]) (rest := []) ⟨hx, hb, hml, hown, hts⟩ (R_pair l dC dI kv h2 T th v (xs (6 * j + 1)) (xs (6 * j + 2)) hR H1.size) (cwV 2 hts gl_R_pair rfl rfl rfl (by decide +kernel) ⟨Nat.le_of_ble_eq_true rfl, Nat.le_of_ble_eq_true rfl⟩) hR.recv hKV hT9 hA hP hD hS rfl hl.1 (lv_room (Nat.le_of_ble_eq_true rfl)) dL_law_973 ⟨show u.2.1 + 1000 * (j + 1) + 125 + 0 ≤ 327717 by omega, show u.2.2.1 + 9000 * (j + 1) + 181434 + 0 ≤ 8118330 by omega⟩ (fun r2 u2 H2 locs2 hp2 hP hD hS => ?_)
  obtain ⟨hR2, hT2⟩ := hp2
  refine lv_pop hx hb dL_law_976 rfl ?_
  refine lv_goto (tgt := 1507) hx hb dL_law_977 (by decide) ?_
  refine W.known (fun z1 z2 => ?_)
  have hL0 := hL1.1
  have hT0 := hT2.1
  have hTT : (((((u2.1.1 : Nat) : Int), u2.1.2) : LT) = u.1 ∧ u2.1.1 ≤ 20 * (j + 1)) := ⟨by rw [hL0, hT0] <;> rfl, by rw [hT0]; first | omega | (dsimp only; omega)⟩
  exact hgo H2 locs2 ls _ _ ⟨u2.1, u2.2.1, u.2.1, u.2.2.1, u.2.2.2, u2.2.2, g, by rw [hTT.1]; exact hC1, hR2, hTT.2, hP, hD, hS, by omega, by omega⟩ (lv_sub hl [0, 1, 2, 3, 4] rfl)
set_option maxHeartbeats 4000000 in
set_option maxRecDepth 100000 in
/-- the law's case 23: left -/
theorem lc_23 {p : Program} {e : Env} {s : State} {m : MethodId} {below : List Frame} {meth : Method} {c : Code} (l : Launch) (hst : l.stackTraces = false) {b Ls : Nat} {xs : Nat → Int32} (hLs : Ls ≤ 384) (C0 : lw_At p s m meth c b Ls xs) {A : Nat → Prop} (dC : Nat → ClassId) (dI : Nat → Nat → Nat) (kX : Nat → ClassId) (kT : Nat → ClassId) (kM : Nat → ClassId) (kV : Nat → ClassId) (kC : Nat → ClassId) (kN : Nat → ClassId) (kJ : Nat → ClassId) (kL : Nat → ClassId) (kF : Nat → ClassId) (kO : Nat → ClassId) (kQ : Nat → ClassId) (kG : Nat → ClassId) (kw : ClassId) (kv : Nat → ClassId) (kR : ClassId) (E0 : LwC dC dI kX kT kM kV kC kN kJ kL kF kO kQ kG kw kv kR A s) {h1 h2 o j : Nat} (hj : 6 * j + 6 ≤ Ls) {H : Heap} {locs : List Loc} {ls : Array Slot} {cells slots : Nat} (hI : LwI dC dI kX kT kM kV kC kN kJ kL kF kO kQ kG kw kv kR A s h1 h2 o j H locs) (hl : lv_has ls 7 [(4, .int (nI (6 * j))), (3, .ref o), (2, .ref h2), (1, .ref h1), (0, .ref b)])
    (hgo : ∀ (H : Heap) (locs : List Loc) (ls : Array Slot) (cells slots : Nat), LwI dC dI kX kT kM kV kC kN kJ kL kF kO kQ kG kw kv kR A s h1 h2 o (j + 1) H locs → lv_has ls 7 [(4, .int (nI (6 * j))), (3, .ref o), (2, .ref h2), (1, .ref h1), (0, .ref b)] → W p l e room_1 s m #[Value.ref b] below meth c H locs cells slots (lw_Z below #[Value.ref b] s) (F0 m 1507 ls [])) : W p l e room_1 s m #[Value.ref b] below meth c H locs cells slots (lw_Z below #[Value.ref b] s) (F0 m 980 ls []) := by
  obtain ⟨hx, hb, hr, hml, hown, hts, hX, hbl, hlocks, hgv⟩ := id C0
  have hb : c.code = cL_law := hb
  have hown : s.vm.findClass RL = some m.cls := hown
  obtain ⟨hA, hA2, hE, hT9, hNc, hKC, hKV, hKR⟩ := E0
  have hbA : ¬ A b := fun h => absurd (hA2 b h) (Nat.not_le.mpr hbl)
  obtain ⟨T, th, Fc, Fs, w, v, g, hC, hR, hT, hP, hD, hS, hz, hn⟩ := hI
  have hbd := hC.bd
  refine W.tight (cells2 := Fc + 1000 * j + 125) (slots2 := Fs + 9000 * j + 181434) hz hn ?_
  refine lv_aload_n hx hb dL_law_980 rfl (lv_at hl 3 rfl) ?_
  refine lw_arg hx hb hX hbl hbA hS (lv_at hl 4 rfl) (lv_at hl 0 rfl) 1 (by omega) hLs (by decide) dL_law_981 dL_law_982 dL_law_984 dL_law_985 dL_law_986 ?_
  refine lawC_i (y := yX11_left) (ws := wsU_left) (mc := 0) (ms := 0) (As := [.int (xs (6 * j + 1))]) (rest := []) ⟨hx, hb, hml, hown, hts⟩ (U_left l hst dC dI kX kT kM kV kC kN kJ kL kF kO kQ kG kw h1 (((T.1 : Nat) : Int), T.2) Fc Fs w (xs (6 * j + 1)) hC H.size) (cwV 1 hts gl_C_left rfl rfl rfl (by decide +kernel) ⟨Nat.le_of_ble_eq_true rfl, Nat.le_of_ble_eq_true rfl⟩) hC.recv hKC hE hA hP hD hS rfl hl.1 (lv_room (Nat.le_of_ble_eq_true rfl)) dL_law_987 ⟨show Fc + 1000 * j + 125 + 0 ≤ 327717 by omega, show Fs + 9000 * j + 181434 + 0 ≤ 8118330 by omega⟩ (fun r1 u H1 locs1 hp hP hD hS hz1 hs1 => ?_)
  obtain ⟨hC1, hL1⟩ := hp
  refine W.tight (cells2 := u.2.1 + 1000 * (j + 1) + 125) (slots2 := u.2.2.1 + 9000 * (j + 1) + 181434) (by omega) (by omega) ?_
  have hbd1 := hC1.bd
  refine lv_pop hx hb dL_law_990 rfl ?_
  refine lv_aload_n hx hb dL_law_991 rfl (lv_at hl 2 rfl) ?_
  refine lw_arg hx hb hX hbl hbA hS (lv_at hl 4 rfl) (lv_at hl 0 rfl) 1 (by omega) hLs (by decide) dL_law_992 dL_law_993 dL_law_995 dL_law_996 dL_law_997 ?_
  refine lawR_i (y := yX12_left) (ws := wsRX12_left) (mc := 0) (ms := 0) (As := [.int (xs (6 * j + 1))]) (rest := []) ⟨hx, hb, hml, hown, hts⟩ (R_left l dC dI kv h2 T th v (xs (6 * j + 1)) hR H1.size) (cwV 1 hts gl_R_left rfl rfl rfl (by decide +kernel) ⟨Nat.le_of_ble_eq_true rfl, Nat.le_of_ble_eq_true rfl⟩) hR.recv hKV hT9 hA hP hD hS rfl hl.1 (lv_room (Nat.le_of_ble_eq_true rfl)) dL_law_998 ⟨show u.2.1 + 1000 * (j + 1) + 125 + 0 ≤ 327717 by omega, show u.2.2.1 + 9000 * (j + 1) + 181434 + 0 ≤ 8118330 by omega⟩ (fun r2 u2 H2 locs2 hp2 hP hD hS => ?_)
  obtain ⟨hR2, hT2⟩ := hp2
  refine lv_pop hx hb dL_law_1001 rfl ?_
  refine lv_goto (tgt := 1507) hx hb dL_law_1002 (by decide) ?_
  refine W.known (fun z1 z2 => ?_)
  have hTT : (((((u2.1.1 : Nat) : Int), u2.1.2) : LT) = u.1 ∧ u2.1.1 ≤ 20 * (j + 1)) := ⟨by rw [hL1, hT2] <;> rfl, by rw [hT2]; first | omega | (dsimp only; omega)⟩
  exact hgo H2 locs2 ls _ _ ⟨u2.1, u2.2.1, u.2.1, u.2.2.1, u.2.2.2, u2.2.2, g, by rw [hTT.1]; exact hC1, hR2, hTT.2, hP, hD, hS, by omega, by omega⟩ (lv_sub hl [0, 1, 2, 3, 4] rfl)
set_option maxHeartbeats 4000000 in
set_option maxRecDepth 100000 in
/-- the law's case 24: listing -/
theorem lc_24 {p : Program} {e : Env} {s : State} {m : MethodId} {below : List Frame} {meth : Method} {c : Code} (l : Launch) (hst : l.stackTraces = false) {b Ls : Nat} {xs : Nat → Int32} (hLs : Ls ≤ 384) (C0 : lw_At p s m meth c b Ls xs) {A : Nat → Prop} (dC : Nat → ClassId) (dI : Nat → Nat → Nat) (kX : Nat → ClassId) (kT : Nat → ClassId) (kM : Nat → ClassId) (kV : Nat → ClassId) (kC : Nat → ClassId) (kN : Nat → ClassId) (kJ : Nat → ClassId) (kL : Nat → ClassId) (kF : Nat → ClassId) (kO : Nat → ClassId) (kQ : Nat → ClassId) (kG : Nat → ClassId) (kw : ClassId) (kv : Nat → ClassId) (kR : ClassId) (E0 : LwC dC dI kX kT kM kV kC kN kJ kL kF kO kQ kG kw kv kR A s) {h1 h2 o j : Nat} (hj : 6 * j + 6 ≤ Ls) {H : Heap} {locs : List Loc} {ls : Array Slot} {cells slots : Nat} (hI : LwI dC dI kX kT kM kV kC kN kJ kL kF kO kQ kG kw kv kR A s h1 h2 o j H locs) (hl : lv_has ls 7 [(4, .int (nI (6 * j))), (3, .ref o), (2, .ref h2), (1, .ref h1), (0, .ref b)])
    (hgo : ∀ (H : Heap) (locs : List Loc) (ls : Array Slot) (cells slots : Nat), LwI dC dI kX kT kM kV kC kN kJ kL kF kO kQ kG kw kv kR A s h1 h2 o (j + 1) H locs → lv_has ls 7 [(4, .int (nI (6 * j))), (3, .ref o), (2, .ref h2), (1, .ref h1), (0, .ref b)] → W p l e room_1 s m #[Value.ref b] below meth c H locs cells slots (lw_Z below #[Value.ref b] s) (F0 m 1507 ls [])) : W p l e room_1 s m #[Value.ref b] below meth c H locs cells slots (lw_Z below #[Value.ref b] s) (F0 m 1005 ls []) := by
  obtain ⟨hx, hb, hr, hml, hown, hts, hX, hbl, hlocks, hgv⟩ := id C0
  have hb : c.code = cL_law := hb
  have hown : s.vm.findClass RL = some m.cls := hown
  obtain ⟨hA, hA2, hE, hT9, hNc, hKC, hKV, hKR⟩ := E0
  have hbA : ¬ A b := fun h => absurd (hA2 b h) (Nat.not_le.mpr hbl)
  obtain ⟨T, th, Fc, Fs, w, v, g, hC, hR, hT, hP, hD, hS, hz, hn⟩ := hI
  have hbd := hC.bd
  refine W.tight (cells2 := Fc + 1000 * j + 125) (slots2 := Fs + 9000 * j + 181434) hz hn ?_
  refine lv_aload_n hx hb dL_law_1005 rfl (lv_at hl 3 rfl) ?_
  refine lawC_i (y := yX11_listing) (ws := wsU_listing) (mc := 20001) (ms := 180000) (As := []) (rest := []) ⟨hx, hb, hml, hown, hts⟩ (U_listing l hst dC dI kX kT kM kV kC kN kJ kL kF kO kQ kG kw h1 (((T.1 : Nat) : Int), T.2) Fc Fs w hC H.size) (cwV 0 hts gl_C_listing rfl rfl rfl (by decide +kernel) ⟨Nat.le_of_ble_eq_true rfl, Nat.le_of_ble_eq_true rfl⟩) hC.recv hKC hE hA hP hD hS rfl hl.1 (lv_room (Nat.le_of_ble_eq_true rfl)) dL_law_1006 ⟨show Fc + 1000 * j + 125 + 20001 ≤ 327717 by omega, show Fs + 9000 * j + 181434 + 180000 ≤ 8118330 by omega⟩ (fun r1 u H1 locs1 hp hP hD hS hz1 hs1 => ?_)
  obtain ⟨hC1, hL1⟩ := hp
  refine W.tight (cells2 := u.2.1 + 1000 * (j + 1) + 125) (slots2 := u.2.2.1 + 9000 * (j + 1) + 181434) (by omega) (by omega) ?_
  have hbd1 := hC1.bd
  refine lv_pop hx hb dL_law_1009 rfl ?_
  refine lv_aload_n hx hb dL_law_1010 rfl (lv_at hl 2 rfl) ?_
  refine lawR_i (y := yX12_listing) (ws := wsRX12_listing) (mc := 0) (ms := 0) (As := []) (rest := []) ⟨hx, hb, hml, hown, hts⟩ (R_listing l dC dI kv h2 T th v hR H1.size) (cwV 0 hts gl_R_listing rfl rfl rfl (by decide +kernel) ⟨Nat.le_of_ble_eq_true rfl, Nat.le_of_ble_eq_true rfl⟩) hR.recv hKV hT9 hA hP hD hS rfl hl.1 (lv_room (Nat.le_of_ble_eq_true rfl)) dL_law_1011 ⟨show u.2.1 + 1000 * (j + 1) + 125 + 0 ≤ 327717 by omega, show u.2.2.1 + 9000 * (j + 1) + 181434 + 0 ≤ 8118330 by omega⟩ (fun r2 u2 H2 locs2 hp2 hP hD hS => ?_)
  obtain ⟨hR2, hT2⟩ := hp2
  refine lv_pop hx hb dL_law_1014 rfl ?_
  refine lv_goto (tgt := 1507) hx hb dL_law_1015 (by decide) ?_
  refine W.known (fun z1 z2 => ?_)
  have hTT : (((((u2.1.1 : Nat) : Int), u2.1.2) : LT) = u.1 ∧ u2.1.1 ≤ 20 * (j + 1)) := ⟨by rw [hL1, hT2] <;> rfl, by rw [hT2]; first | omega | (dsimp only; omega)⟩
  exact hgo H2 locs2 ls _ _ ⟨u2.1, u2.2.1, u.2.1, u.2.2.1, u.2.2.2, u2.2.2, g, by rw [hTT.1]; exact hC1, hR2, hTT.2, hP, hD, hS, by omega, by omega⟩ (lv_sub hl [0, 1, 2, 3, 4] rfl)
set_option maxHeartbeats 4000000 in
set_option maxRecDepth 100000 in
/-- the law's case 25: listed -/
theorem lc_25 {p : Program} {e : Env} {s : State} {m : MethodId} {below : List Frame} {meth : Method} {c : Code} (l : Launch) (hst : l.stackTraces = false) {b Ls : Nat} {xs : Nat → Int32} (hLs : Ls ≤ 384) (C0 : lw_At p s m meth c b Ls xs) {A : Nat → Prop} (dC : Nat → ClassId) (dI : Nat → Nat → Nat) (kX : Nat → ClassId) (kT : Nat → ClassId) (kM : Nat → ClassId) (kV : Nat → ClassId) (kC : Nat → ClassId) (kN : Nat → ClassId) (kJ : Nat → ClassId) (kL : Nat → ClassId) (kF : Nat → ClassId) (kO : Nat → ClassId) (kQ : Nat → ClassId) (kG : Nat → ClassId) (kw : ClassId) (kv : Nat → ClassId) (kR : ClassId) (E0 : LwC dC dI kX kT kM kV kC kN kJ kL kF kO kQ kG kw kv kR A s) {h1 h2 o j : Nat} (hj : 6 * j + 6 ≤ Ls) {H : Heap} {locs : List Loc} {ls : Array Slot} {cells slots : Nat} (hI : LwI dC dI kX kT kM kV kC kN kJ kL kF kO kQ kG kw kv kR A s h1 h2 o j H locs) (hl : lv_has ls 7 [(4, .int (nI (6 * j))), (3, .ref o), (2, .ref h2), (1, .ref h1), (0, .ref b)])
    (hgo : ∀ (H : Heap) (locs : List Loc) (ls : Array Slot) (cells slots : Nat), LwI dC dI kX kT kM kV kC kN kJ kL kF kO kQ kG kw kv kR A s h1 h2 o (j + 1) H locs → lv_has ls 7 [(4, .int (nI (6 * j))), (3, .ref o), (2, .ref h2), (1, .ref h1), (0, .ref b)] → W p l e room_1 s m #[Value.ref b] below meth c H locs cells slots (lw_Z below #[Value.ref b] s) (F0 m 1507 ls [])) : W p l e room_1 s m #[Value.ref b] below meth c H locs cells slots (lw_Z below #[Value.ref b] s) (F0 m 1018 ls []) := by
  obtain ⟨hx, hb, hr, hml, hown, hts, hX, hbl, hlocks, hgv⟩ := id C0
  have hb : c.code = cL_law := hb
  have hown : s.vm.findClass RL = some m.cls := hown
  obtain ⟨hA, hA2, hE, hT9, hNc, hKC, hKV, hKR⟩ := E0
  have hbA : ¬ A b := fun h => absurd (hA2 b h) (Nat.not_le.mpr hbl)
  obtain ⟨T, th, Fc, Fs, w, v, g, hC, hR, hT, hP, hD, hS, hz, hn⟩ := hI
  have hbd := hC.bd
  refine W.tight (cells2 := Fc + 1000 * j + 125) (slots2 := Fs + 9000 * j + 181434) hz hn ?_
  refine lv_aload_n hx hb dL_law_1018 rfl (lv_at hl 3 rfl) ?_
  refine lw_arg hx hb hX hbl hbA hS (lv_at hl 4 rfl) (lv_at hl 0 rfl) 1 (by omega) hLs (by decide) dL_law_1019 dL_law_1020 dL_law_1022 dL_law_1023 dL_law_1024 ?_
  refine lw_arg hx hb hX hbl hbA hS (lv_at hl 4 rfl) (lv_at hl 0 rfl) 2 (by omega) hLs (by decide) dL_law_1025 dL_law_1026 dL_law_1028 dL_law_1029 dL_law_1030 ?_
  refine lawC_i (y := yX11_listed) (ws := wsU_listed) (mc := 25001) (ms := 220000) (As := [.int (xs (6 * j + 1)), .int (xs (6 * j + 2))]) (rest := []) ⟨hx, hb, hml, hown, hts⟩ (U_listed l hst dC dI kX kT kM kV kC kN kJ kL kF kO kQ kG kw h1 (((T.1 : Nat) : Int), T.2) Fc Fs w (xs (6 * j + 1)) (xs (6 * j + 2)) hC H.size) (cwV 2 hts gl_C_listed rfl rfl rfl (by decide +kernel) ⟨Nat.le_of_ble_eq_true rfl, Nat.le_of_ble_eq_true rfl⟩) hC.recv hKC hE hA hP hD hS rfl hl.1 (lv_room (Nat.le_of_ble_eq_true rfl)) dL_law_1031 ⟨show Fc + 1000 * j + 125 + 25001 ≤ 327717 by omega, show Fs + 9000 * j + 181434 + 220000 ≤ 8118330 by omega⟩ (fun r1 u H1 locs1 hp hP hD hS hz1 hs1 => ?_)
  obtain ⟨hC1, hL1⟩ := hp
  refine W.tight (cells2 := u.2.1 + 1000 * (j + 1) + 125) (slots2 := u.2.2.1 + 9000 * (j + 1) + 181434) (by omega) (by omega) ?_
  have hbd1 := hC1.bd
  refine lv_pop hx hb dL_law_1034 rfl ?_
  refine lv_aload_n hx hb dL_law_1035 rfl (lv_at hl 2 rfl) ?_
  refine lw_arg hx hb hX hbl hbA hS (lv_at hl 4 rfl) (lv_at hl 0 rfl) 1 (by omega) hLs (by decide) dL_law_1036 dL_law_1037 dL_law_1039 dL_law_1040 dL_law_1041 ?_
  refine lw_arg hx hb hX hbl hbA hS (lv_at hl 4 rfl) (lv_at hl 0 rfl) 2 (by omega) hLs (by decide) dL_law_1042 dL_law_1043 dL_law_1045 dL_law_1046 dL_law_1047 ?_
  refine lawR_i (y := yX12_listed) (ws := wsRX12_listed) (mc := 0) (ms := 0) (As := [.int (xs (6 * j + 1)), .int (xs (6 * j + 2))]) (rest := []) ⟨hx, hb, hml, hown, hts⟩ (R_listed l dC dI kv h2 T th v (xs (6 * j + 1)) (xs (6 * j + 2)) hR H1.size) (cwV 2 hts gl_R_listed rfl rfl rfl (by decide +kernel) ⟨Nat.le_of_ble_eq_true rfl, Nat.le_of_ble_eq_true rfl⟩) hR.recv hKV hT9 hA hP hD hS rfl hl.1 (lv_room (Nat.le_of_ble_eq_true rfl)) dL_law_1048 ⟨show u.2.1 + 1000 * (j + 1) + 125 + 0 ≤ 327717 by omega, show u.2.2.1 + 9000 * (j + 1) + 181434 + 0 ≤ 8118330 by omega⟩ (fun r2 u2 H2 locs2 hp2 hP hD hS => ?_)
  obtain ⟨hR2, hT2⟩ := hp2
  refine lv_pop hx hb dL_law_1051 rfl ?_
  refine lv_goto (tgt := 1507) hx hb dL_law_1052 (by decide) ?_
  refine W.known (fun z1 z2 => ?_)
  have hTT : (((((u2.1.1 : Nat) : Int), u2.1.2) : LT) = u.1 ∧ u2.1.1 ≤ 20 * (j + 1)) := ⟨by rw [hL1, hT2] <;> rfl, by rw [hT2]; first | omega | (dsimp only; omega)⟩
  exact hgo H2 locs2 ls _ _ ⟨u2.1, u2.2.1, u.2.1, u.2.2.1, u.2.2.2, u2.2.2, g, by rw [hTT.1]; exact hC1, hR2, hTT.2, hP, hD, hS, by omega, by omega⟩ (lv_sub hl [0, 1, 2, 3, 4] rfl)

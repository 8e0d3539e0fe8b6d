set_option maxHeartbeats 4000000 in
set_option maxRecDepth 100000 in
/-- the law's case 26: reason -/
theorem lc_26 {p : Program} {e : Env} {s : State} {m : MethodId} {below : List Frame} {meth : Method} {c : Code} (l : Launch) (hst : l.stackTraces = false) {b Ls : Nat} {xs : Nat → Int32} (hLs : Ls ≤ 384) (C0 : lw_At p s m meth c b Ls xs) {A : Nat → Prop} (dC : Nat → ClassId) (dI : Nat → Nat → Nat) (kX : Nat → ClassId) (kT : Nat → ClassId) (kM : Nat → ClassId) (kV : Nat → ClassId) (kC : Nat → ClassId) (kN : Nat → ClassId) (kJ : Nat → ClassId) (kL : Nat → ClassId) (kF : Nat → ClassId) (kO : Nat → ClassId) (kQ : Nat → ClassId) (kG : Nat → ClassId) (kw : ClassId) (kv : Nat → ClassId) (kR : ClassId) (E0 : LwC dC dI kX kT kM kV kC kN kJ kL kF kO kQ kG kw kv kR A s) {h1 h2 o j : Nat} (hj : 6 * j + 6 ≤ Ls) {H : Heap} {locs : List Loc} {ls : Array Slot} {cells slots : Nat} (hI : LwI dC dI kX kT kM kV kC kN kJ kL kF kO kQ kG kw kv kR A s h1 h2 o j H locs) (hl : lv_has ls 7 [(4, .int (nI (6 * j))), (3, .ref o), (2, .ref h2), (1, .ref h1), (0, .ref b)])
    (hgo : ∀ (H : Heap) (locs : List Loc) (ls : Array Slot) (cells slots : Nat), LwI dC dI kX kT kM kV kC kN kJ kL kF kO kQ kG kw kv kR A s h1 h2 o (j + 1) H locs → lv_has ls 7 [(4, .int (nI (6 * j))), (3, .ref o), (2, .ref h2), (1, .ref h1), (0, .ref b)] → W p l e room_1 s m #[Value.ref b] below meth c H locs cells slots (lw_Z below #[Value.ref b] s) (F0 m 1507 ls [])) : W p l e room_1 s m #[Value.ref b] below meth c H locs cells slots (lw_Z below #[Value.ref b] s) (F0 m 1055 ls []) := by
  obtain ⟨hx, hb, hr, hml, hown, hts, hX, hbl, hlocks, hgv⟩ := id C0
  have hb : c.code = cL_law := hb
  have hown : s.vm.findClass RL = some m.cls := hown
  obtain ⟨hA, hA2, hE, hT9, hNc, hKC, hKV, hKR⟩ := E0
  have hbA : ¬ A b := fun h => absurd (hA2 b h) (Nat.not_le.mpr hbl)
  obtain ⟨T, th, Fc, Fs, w, v, g, hC, hR, hT, hP, hD, hS, hz, hn⟩ := hI
  have hbd := hC.bd
  refine W.tight (cells2 := Fc + 1000 * j + 125) (slots2 := Fs + 9000 * j + 181434) hz hn ?_
  refine lv_aload_n hx hb dL_law_1055 rfl (lv_at hl 3 rfl) ?_
  refine lw_arg hx hb hX hbl hbA hS (lv_at hl 4 rfl) (lv_at hl 0 rfl) 1 (by omega) hLs (by decide) dL_law_1056 dL_law_1057 dL_law_1059 dL_law_1060 dL_law_1061 ?_
  refine lw_arg hx hb hX hbl hbA hS (lv_at hl 4 rfl) (lv_at hl 0 rfl) 2 (by omega) hLs (by decide) dL_law_1062 dL_law_1063 dL_law_1065 dL_law_1066 dL_law_1067 ?_
  refine lawC_i (y := yX11_reason) (ws := wsU_reason) (mc := 0) (ms := 0) (As := [.int (xs (6 * j + 1)), .int (xs (6 * j + 2))]) (rest := []) ⟨hx, hb, hml, hown, hts⟩ (U_reason l hst dC dI kX kT kM kV kC kN kJ kL kF kO kQ kG kw h1 (((T.1 : Nat) : Int), T.2) Fc Fs w (xs (6 * j + 1)) (xs (6 * j + 2)) hC H.size) (cwV 2 hts gl_C_reason rfl rfl rfl (by decide +kernel) ⟨Nat.le_of_ble_eq_true rfl, Nat.le_of_ble_eq_true rfl⟩) hC.recv hKC hE hA hP hD hS rfl hl.1 (lv_room (Nat.le_of_ble_eq_true rfl)) dL_law_1068 ⟨show Fc + 1000 * j + 125 + 0 ≤ 327717 by omega, show Fs + 9000 * j + 181434 + 0 ≤ 8118330 by omega⟩ (fun r1 u H1 locs1 hp hP hD hS hz1 hs1 => ?_)
  obtain ⟨hC1, hL1⟩ := hp
  refine W.tight (cells2 := u.2.1 + 1000 * (j + 1) + 125) (slots2 := u.2.2.1 + 9000 * (j + 1) + 181434) (by omega) (by omega) ?_
  have hbd1 := hC1.bd
  refine lv_pop hx hb dL_law_1071 rfl ?_
  refine lv_aload_n hx hb dL_law_1072 rfl (lv_at hl 2 rfl) ?_
  refine lw_arg hx hb hX hbl hbA hS (lv_at hl 4 rfl) (lv_at hl 0 rfl) 1 (by omega) hLs (by decide) dL_law_1073 dL_law_1074 dL_law_1076 dL_law_1077 dL_law_1078 ?_
  refine lw_arg hx hb hX hbl hbA hS (lv_at hl 4 rfl) (lv_at hl 0 rfl) 2 (by omega) hLs (by decide) dL_law_1079 dL_law_1080 dL_law_1082 dL_law_1083 dL_law_1084 ?_
  refine lawR_i (y := yX12_reason) (ws := wsRX12_reason) (mc := 0) (ms := 0) (As := [.int (xs (6 * j + 1)), .int (xs (6 * j + 2))]) (rest := []) ⟨hx, hb, hml, hown, hts⟩ (R_reason l dC dI kv h2 T th v (xs (6 * j + 1)) (xs (6 * j + 2)) hR H1.size) (cwV 2 hts gl_R_reason rfl rfl rfl (by decide +kernel) ⟨Nat.le_of_ble_eq_true rfl, Nat.le_of_ble_eq_true rfl⟩) hR.recv hKV hT9 hA hP hD hS rfl hl.1 (lv_room (Nat.le_of_ble_eq_true rfl)) dL_law_1085 ⟨show u.2.1 + 1000 * (j + 1) + 125 + 0 ≤ 327717 by omega, show u.2.2.1 + 9000 * (j + 1) + 181434 + 0 ≤ 8118330 by omega⟩ (fun r2 u2 H2 locs2 hp2 hP hD hS => ?_)
  obtain ⟨hR2, hT2⟩ := hp2
  refine lv_pop hx hb dL_law_1088 rfl ?_
  refine lv_goto (tgt := 1507) hx hb dL_law_1089 (by decide) ?_
  refine W.known (fun z1 z2 => ?_)
  have hTT : (((((u2.1.1 : Nat) : Int), u2.1.2) : LT) = u.1 ∧ u2.1.1 ≤ 20 * (j + 1)) := ⟨by rw [hL1, hT2] <;> rfl, by rw [hT2]; first | omega | (dsimp only; omega)⟩
  exact hgo H2 locs2 ls _ _ ⟨u2.1, u2.2.1, u.2.1, u.2.2.1, u.2.2.2, u2.2.2, g, by rw [hTT.1]; exact hC1, hR2, hTT.2, hP, hD, hS, by omega, by omega⟩ (lv_sub hl [0, 1, 2, 3, 4] rfl)
set_option maxHeartbeats 4000000 in
set_option maxRecDepth 100000 in
/-- the law's case 27: clear -/
theorem lc_27 {p : Program} {e : Env} {s : State} {m : MethodId} {below : List Frame} {meth : Method} {c : Code} (l : Launch) (hst : l.stackTraces = false) {b Ls : Nat} {xs : Nat → Int32} (hLs : Ls ≤ 384) (C0 : lw_At p s m meth c b Ls xs) {A : Nat → Prop} (dC : Nat → ClassId) (dI : Nat → Nat → Nat) (kX : Nat → ClassId) (kT : Nat → ClassId) (kM : Nat → ClassId) (kV : Nat → ClassId) (kC : Nat → ClassId) (kN : Nat → ClassId) (kJ : Nat → ClassId) (kL : Nat → ClassId) (kF : Nat → ClassId) (kO : Nat → ClassId) (kQ : Nat → ClassId) (kG : Nat → ClassId) (kw : ClassId) (kv : Nat → ClassId) (kR : ClassId) (E0 : LwC dC dI kX kT kM kV kC kN kJ kL kF kO kQ kG kw kv kR A s) {h1 h2 o j : Nat} (hj : 6 * j + 6 ≤ Ls) {H : Heap} {locs : List Loc} {ls : Array Slot} {cells slots : Nat} (hI : LwI dC dI kX kT kM kV kC kN kJ kL kF kO kQ kG kw kv kR A s h1 h2 o j H locs) (hl : lv_has ls 7 [(4, .int (nI (6 * j))), (3, .ref o), (2, .ref h2), (1, .ref h1), (0, .ref b)])
    (hgo : ∀ (H : Heap) (locs : List Loc) (ls : Array Slot) (cells slots : Nat), LwI dC dI kX kT kM kV kC kN kJ kL kF kO kQ kG kw kv kR A s h1 h2 o (j + 1) H locs → lv_has ls 7 [(4, .int (nI (6 * j))), (3, .ref o), (2, .ref h2), (1, .ref h1), (0, .ref b)] → W p l e room_1 s m #[Value.ref b] below meth c H locs cells slots (lw_Z below #[Value.ref b] s) (F0 m 1507 ls [])) : W p l e room_1 s m #[Value.ref b] below meth c H locs cells slots (lw_Z below #[Value.ref b] s) (F0 m 1092 ls []) := by
  obtain ⟨hx, hb, hr, hml, hown, hts, hX, hbl, hlocks, hgv⟩ := id C0
  have hb : c.code = cL_law := hb
  have hown : s.vm.findClass RL = some m.cls := hown
  obtain ⟨hA, hA2, hE, hT9, hNc, hKC, hKV, hKR⟩ := E0
  have hbA : ¬ A b := fun h => absurd (hA2 b h) (Nat.not_le.mpr hbl)
  obtain ⟨T, th, Fc, Fs, w, v, g, hC, hR, hT, hP, hD, hS, hz, hn⟩ := hI
  have hbd := hC.bd
  refine W.tight (cells2 := Fc + 1000 * j + 125) (slots2 := Fs + 9000 * j + 181434) hz hn ?_
  refine lv_aload_n hx hb dL_law_1092 rfl (lv_at hl 3 rfl) ?_
  refine lawC_v (y := yX11_clear) (ws := wsU_clear) (mc := 15) (ms := 1408) (As := []) (rest := []) ⟨hx, hb, hml, hown, hts⟩ (U_clear l hst dC dI kX kT kM kV kC kN kJ kL kF kO kQ kG kw h1 (((T.1 : Nat) : Int), T.2) Fc Fs w hC H.size) (cwV 0 hts gl_C_clear rfl rfl rfl (by decide +kernel) ⟨Nat.le_of_ble_eq_true rfl, Nat.le_of_ble_eq_true rfl⟩) hC.recv hKC hE hA hP hD hS rfl hl.1 (lv_room (Nat.le_of_ble_eq_true rfl)) dL_law_1093 ⟨show Fc + 1000 * j + 125 + 15 ≤ 327717 by omega, show Fs + 9000 * j + 181434 + 1408 ≤ 8118330 by omega⟩ (fun u H1 locs1 hp hP hD hS hz1 hs1 => ?_)
  obtain ⟨hC1, hL1⟩ := hp
  refine W.tight (cells2 := u.2.1 + 1000 * (j + 1) + 125) (slots2 := u.2.2.1 + 9000 * (j + 1) + 181434) (by omega) (by omega) ?_
  have hbd1 := hC1.bd
  refine lv_aload_n hx hb dL_law_1096 rfl (lv_at hl 2 rfl) ?_
  refine lawR_v (y := yX12_clear) (ws := wsRX12_clear) (mc := 0) (ms := 0) (As := []) (rest := []) ⟨hx, hb, hml, hown, hts⟩ (R_clear l dC dI kv h2 T th v hR H1.size) (cwV 0 hts gl_R_clear rfl rfl rfl (by decide +kernel) ⟨Nat.le_of_ble_eq_true rfl, Nat.le_of_ble_eq_true rfl⟩) hR.recv hKV hT9 hA hP hD hS rfl hl.1 (lv_room (Nat.le_of_ble_eq_true rfl)) dL_law_1097 ⟨show u.2.1 + 1000 * (j + 1) + 125 + 0 ≤ 327717 by omega, show u.2.2.1 + 9000 * (j + 1) + 181434 + 0 ≤ 8118330 by omega⟩ (fun u2 H2 locs2 hp2 hP hD hS => ?_)
  obtain ⟨hR2, hT2⟩ := hp2
  refine lv_goto (tgt := 1507) hx hb dL_law_1100 (by decide) ?_
  refine W.known (fun z1 z2 => ?_)
  have hTT : (((((u2.1.1 : Nat) : Int), u2.1.2) : LT) = u.1 ∧ u2.1.1 ≤ 20 * (j + 1)) := ⟨by rw [hL1, hT2] <;> rfl, by rw [hT2]; first | omega | (dsimp only; omega)⟩
  exact hgo H2 locs2 ls _ _ ⟨u2.1, u2.2.1, u.2.1, u.2.2.1, u.2.2.2, u2.2.2, g, by rw [hTT.1]; exact hC1, hR2, hTT.2, hP, hD, hS, by omega, by omega⟩ (lv_sub hl [0, 1, 2, 3, 4] rfl)
set_option maxHeartbeats 4000000 in
set_option maxRecDepth 100000 in
/-- the law's case 28: clause -/
theorem lc_28 {p : Program} {e : Env} {s : State} {m : MethodId} {below : List Frame} {meth : Method} {c : Code} (l : Launch) (hst : l.stackTraces = false) {b Ls : Nat} {xs : Nat → Int32} (hLs : Ls ≤ 384) (C0 : lw_At p s m meth c b Ls xs) {A : Nat → Prop} (dC : Nat → ClassId) (dI : Nat → Nat → Nat) (kX : Nat → ClassId) (kT : Nat → ClassId) (kM : Nat → ClassId) (kV : Nat → ClassId) (kC : Nat → ClassId) (kN : Nat → ClassId) (kJ : Nat → ClassId) (kL : Nat → ClassId) (kF : Nat → ClassId) (kO : Nat → ClassId) (kQ : Nat → ClassId) (kG : Nat → ClassId) (kw : ClassId) (kv : Nat → ClassId) (kR : ClassId) (E0 : LwC dC dI kX kT kM kV kC kN kJ kL kF kO kQ kG kw kv kR A s) {h1 h2 o j : Nat} (hj : 6 * j + 6 ≤ Ls) {H : Heap} {locs : List Loc} {ls : Array Slot} {cells slots : Nat} (hI : LwI dC dI kX kT kM kV kC kN kJ kL kF kO kQ kG kw kv kR A s h1 h2 o j H locs) (hl : lv_has ls 7 [(4, .int (nI (6 * j))), (3, .ref o), (2, .ref h2), (1, .ref h1), (0, .ref b)])
    (hgo : ∀ (H : Heap) (locs : List Loc) (ls : Array Slot) (cells slots : Nat), LwI dC dI kX kT kM kV kC kN kJ kL kF kO kQ kG kw kv kR A s h1 h2 o (j + 1) H locs → lv_has ls 7 [(4, .int (nI (6 * j))), (3, .ref o), (2, .ref h2), (1, .ref h1), (0, .ref b)] → W p l e room_1 s m #[Value.ref b] below meth c H locs cells slots (lw_Z below #[Value.ref b] s) (F0 m 1507 ls [])) : W p l e room_1 s m #[Value.ref b] below meth c H locs cells slots (lw_Z below #[Value.ref b] s) (F0 m 1103 ls []) := by
  obtain ⟨hx, hb, hr, hml, hown, hts, hX, hbl, hlocks, hgv⟩ := id C0
  have hb : c.code = cL_law := hb
  have hown : s.vm.findClass RL = some m.cls := hown
  obtain ⟨hA, hA2, hE, hT9, hNc, hKC, hKV, hKR⟩ := E0
  have hbA : ¬ A b := fun h => absurd (hA2 b h) (Nat.not_le.mpr hbl)
  obtain ⟨T, th, Fc, Fs, w, v, g, hC, hR, hT, hP, hD, hS, hz, hn⟩ := hI
  have hbd := hC.bd
  refine W.tight (cells2 := Fc + 1000 * j + 125) (slots2 := Fs + 9000 * j + 181434) hz hn ?_
  refine lv_aload_n hx hb dL_law_1103 rfl (lv_at hl 3 rfl) ?_
  refine lw_arg hx hb hX hbl hbA hS (lv_at hl 4 rfl) (lv_at hl 0 rfl) 1 (by omega) hLs (by decide) dL_law_1104 dL_law_1105 dL_law_1107 dL_law_1108 dL_law_1109 ?_
  refine lw_arg hx hb hX hbl hbA hS (lv_at hl 4 rfl) (lv_at hl 0 rfl) 2 (by omega) hLs (by decide) dL_law_1110 dL_law_1111 dL_law_1113 dL_law_1114 dL_law_1115 ?_
  refine lw_arg hx hb hX hbl hbA hS (lv_at hl 4 rfl) (lv_at hl 0 rfl) 3 (by omega) hLs (by decide) dL_law_1116 dL_law_1117 dL_law_1119 dL_law_1120 dL_law_1121 ?_
  refine lv_aload_n hx hb dL_law_1122 rfl (lv_at hl 1 rfl) ?_
  refine lawH_i (y := yL_clause) (ws := wsH_clause) (mc := 7) (ms := 8277) (As := [.ref h1, .int (xs (6 * j + 1)), .int (xs (6 * j + 2)), .int (xs (6 * j + 3)), .ref o]) (rest := []) ⟨hx, hb, hml, hown, hts⟩ (H_clause l hst dC dI kX kT kM kV kC kN kJ kL kF kO kQ kG kw h1 (((T.1 : Nat) : Int), T.2) Fc Fs w (xs (6 * j + 1)) (xs (6 * j + 2)) (xs (6 * j + 3)) o kR g hC H.size) (vx_cwSW 5 hts gl_H_clause rfl rfl rfl (by decide +kernel) ⟨Nat.le_of_ble_eq_true rfl, Nat.le_of_ble_eq_true rfl⟩) (hKR.app hKC) hE hNc hA hP hD hS rfl hl.1 (lv_room (Nat.le_of_ble_eq_true rfl)) dL_law_1123 ⟨show Fc + 1000 * j + 125 + 7 ≤ 327717 by omega, show Fs + 9000 * j + 181434 + 8277 ≤ 8118330 by omega⟩ (fun r1 u H1 locs1 hp hP hD hS hz1 hs1 => ?_)
  obtain ⟨hC1, hL1⟩ := hp
  refine W.tight (cells2 := u.2.1 + 1000 * (j + 1) + 125) (slots2 := u.2.2.1 + 9000 * (j + 1) + 181434) (by omega) (by omega) ?_
  have hbd1 := hC1.bd
  refine lv_istore hx hb dL_law_1126 hl (by decide) rfl (fun ls (hl : lv_has ls _ ([(5, .int r1), (4, .int (nI (6 * j))), (3, .ref o), (2, .ref h2), (1, .ref h1), (0, .ref b)])) => ?_)
  refine lv_aload_n hx hb dL_law_1128 rfl (lv_at hl 3 rfl) ?_
  refine lw_arg hx hb hX hbl hbA hS (lv_at hl 5 rfl) (lv_at hl 1 rfl) 1 (by omega) hLs (by decide) dL_law_1129 dL_law_1130 dL_law_1132 dL_law_1133 dL_law_1134 ?_
  refine lw_arg hx hb hX hbl hbA hS (lv_at hl 5 rfl) (lv_at hl 1 rfl) 2 (by omega) hLs (by decide) dL_law_1135 dL_law_1136 dL_law_1138 dL_law_1139 dL_law_1140 ?_
  refine lw_arg hx hb hX hbl hbA hS (lv_at hl 5 rfl) (lv_at hl 1 rfl) 3 (by omega) hLs (by decide) dL_law_1141 dL_law_1142 dL_law_1144 dL_law_1145 dL_law_1146 ?_
  refine lawR_i (y := yX12_clause) (ws := wsRX12_clause) (mc := 0) (ms := 0) (As := [.int (xs (6 * j + 1)), .int (xs (6 * j + 2)), .int (xs (6 * j + 3))]) (rest := []) ⟨hx, hb, hml, hown, hts⟩ (R_clause l dC dI kv h2 T th v (xs (6 * j + 1)) (xs (6 * j + 2)) (xs (6 * j + 3)) hR H1.size) (cwV 3 hts gl_R_clause rfl rfl rfl (by decide +kernel) ⟨Nat.le_of_ble_eq_true rfl, Nat.le_of_ble_eq_true rfl⟩) hR.recv hKV hT9 hA hP hD hS rfl hl.1 (lv_room (Nat.le_of_ble_eq_true rfl)) dL_law_1147 ⟨show u.2.1 + 1000 * (j + 1) + 125 + 0 ≤ 327717 by omega, show u.2.2.1 + 9000 * (j + 1) + 181434 + 0 ≤ 8118330 by omega⟩ (fun r2 u2 H2 locs2 hp2 hP hD hS => ?_)
  obtain ⟨hR2, hT2⟩ := hp2
  refine lv_istore hx hb dL_law_1150 hl (by decide) rfl (fun ls (hl : lv_has ls _ ([(6, .int r2), (5, .int r1), (4, .int (nI (6 * j))), (3, .ref o), (2, .ref h2), (1, .ref h1), (0, .ref b)])) => ?_)
  refine lv_goto (tgt := 1507) hx hb dL_law_1152 (by decide) ?_
  refine W.known (fun z1 z2 => ?_)
  have hTT : (((((u2.1.1 : Nat) : Int), u2.1.2) : LT) = u.1 ∧ u2.1.1 ≤ 20 * (j + 1)) := by
    rcases lw3 (n := T.2.2.1.1) (m := T.2.2.1.1) rfl hL1 hT2 with ⟨⟨a1, _⟩, a2, _⟩ | ⟨⟨a1, _⟩, a2, _⟩ | ⟨⟨a1, _⟩, a2, _⟩
    · exact ⟨by rw [a1, a2] <;> rfl, by rw [a2]; first | omega | (dsimp only; omega)⟩
    · exact ⟨by rw [a1, a2] <;> rfl, by rw [a2]; first | omega | (dsimp only; omega)⟩
    · exact ⟨by rw [a1, a2] <;> rfl, by rw [a2]; first | omega | (dsimp only; omega)⟩
  exact hgo H2 locs2 ls _ _ ⟨u2.1, u2.2.1, u.2.1, u.2.2.1, u.2.2.2.1, u2.2.2, u.2.2.2.2, by rw [hTT.1]; exact hC1, hR2, hTT.2, hP, hD, hS, by omega, by omega⟩ (lv_sub hl [2, 3, 4, 5, 6] rfl)
set_option maxHeartbeats 4000000 in
set_option maxRecDepth 100000 in
/-- the law's case 29: unsay -/
theorem lc_29 {p : Program} {e : Env} {s : State} {m : MethodId} {below : List Frame} {meth : Method} {c : Code} (l : Launch) (hst : l.stackTraces = false) {b Ls : Nat} {xs : Nat → Int32} (hLs : Ls ≤ 384) (C0 : lw_At p s m meth c b Ls xs) {A : Nat → Prop} (dC : Nat → ClassId) (dI : Nat → Nat → Nat) (kX : Nat → ClassId) (kT : Nat → ClassId) (kM : Nat → ClassId) (kV : Nat → ClassId) (kC : Nat → ClassId) (kN : Nat → ClassId) (kJ : Nat → ClassId) (kL : Nat → ClassId) (kF : Nat → ClassId) (kO : Nat → ClassId) (kQ : Nat → ClassId) (kG : Nat → ClassId) (kw : ClassId) (kv : Nat → ClassId) (kR : ClassId) (E0 : LwC dC dI kX kT kM kV kC kN kJ kL kF kO kQ kG kw kv kR A s) {h1 h2 o j : Nat} (hj : 6 * j + 6 ≤ Ls) {H : Heap} {locs : List Loc} {ls : Array Slot} {cells slots : Nat} (hI : LwI dC dI kX kT kM kV kC kN kJ kL kF kO kQ kG kw kv kR A s h1 h2 o j H locs) (hl : lv_has ls 7 [(4, .int (nI (6 * j))), (3, .ref o), (2, .ref h2), (1, .ref h1), (0, .ref b)])
    (hgo : ∀ (H : Heap) (locs : List Loc) (ls : Array Slot) (cells slots : Nat), LwI dC dI kX kT kM kV kC kN kJ kL kF kO kQ kG kw kv kR A s h1 h2 o (j + 1) H locs → lv_has ls 7 [(4, .int (nI (6 * j))), (3, .ref o), (2, .ref h2), (1, .ref h1), (0, .ref b)] → W p l e room_1 s m #[Value.ref b] below meth c H locs cells slots (lw_Z below #[Value.ref b] s) (F0 m 1507 ls [])) : W p l e room_1 s m #[Value.ref b] below meth c H locs cells slots (lw_Z below #[Value.ref b] s) (F0 m 1155 ls []) := by
  obtain ⟨hx, hb, hr, hml, hown, hts, hX, hbl, hlocks, hgv⟩ := id C0
  have hb : c.code = cL_law := hb
  have hown : s.vm.findClass RL = some m.cls := hown
  obtain ⟨hA, hA2, hE, hT9, hNc, hKC, hKV, hKR⟩ := E0
  have hbA : ¬ A b := fun h => absurd (hA2 b h) (Nat.not_le.mpr hbl)
  obtain ⟨T, th, Fc, Fs, w, v, g, hC, hR, hT, hP, hD, hS, hz, hn⟩ := hI
  have hbd := hC.bd
  refine W.tight (cells2 := Fc + 1000 * j + 125) (slots2 := Fs + 9000 * j + 181434) hz hn ?_
  refine lv_aload_n hx hb dL_law_1155 rfl (lv_at hl 3 rfl) ?_
  refine lawC_i (y := yX11_unsay) (ws := wsU_unsay) (mc := 6) (ms := 8271) (As := []) (rest := []) ⟨hx, hb, hml, hown, hts⟩ (U_unsay l hst dC dI kX kT kM kV kC kN kJ kL kF kO kQ kG kw h1 (((T.1 : Nat) : Int), T.2) Fc Fs w hC H.size) (cwV 0 hts gl_C_unsay rfl rfl rfl (by decide +kernel) ⟨Nat.le_of_ble_eq_true rfl, Nat.le_of_ble_eq_true rfl⟩) hC.recv hKC hE hA hP hD hS rfl hl.1 (lv_room (Nat.le_of_ble_eq_true rfl)) dL_law_1156 ⟨show Fc + 1000 * j + 125 + 6 ≤ 327717 by omega, show Fs + 9000 * j + 181434 + 8271 ≤ 8118330 by omega⟩ (fun r1 u H1 locs1 hp hP hD hS hz1 hs1 => ?_)
  obtain ⟨hC1, hL1⟩ := hp
  refine W.tight (cells2 := u.2.1 + 1000 * (j + 1) + 125) (slots2 := u.2.2.1 + 9000 * (j + 1) + 181434) (by omega) (by omega) ?_
  have hbd1 := hC1.bd
  refine lv_pop hx hb dL_law_1159 rfl ?_
  refine lv_aload_n hx hb dL_law_1160 rfl (lv_at hl 2 rfl) ?_
  refine lawR_i (y := yX12_unsay) (ws := wsRX12_unsay) (mc := 0) (ms := 0) (As := []) (rest := []) ⟨hx, hb, hml, hown, hts⟩ (R_unsay l dC dI kv h2 T th v hR H1.size) (cwV 0 hts gl_R_unsay rfl rfl rfl (by decide +kernel) ⟨Nat.le_of_ble_eq_true rfl, Nat.le_of_ble_eq_true rfl⟩) hR.recv hKV hT9 hA hP hD hS rfl hl.1 (lv_room (Nat.le_of_ble_eq_true rfl)) dL_law_1161 ⟨show u.2.1 + 1000 * (j + 1) + 125 + 0 ≤ 327717 by omega, show u.2.2.1 + 9000 * (j + 1) + 181434 + 0 ≤ 8118330 by omega⟩ (fun r2 u2 H2 locs2 hp2 hP hD hS => ?_)
  obtain ⟨hR2, hT2⟩ := hp2
  refine lv_pop hx hb dL_law_1164 rfl ?_
  refine lv_goto (tgt := 1507) hx hb dL_law_1165 (by decide) ?_
  refine W.known (fun z1 z2 => ?_)
  have hTT : (((((u2.1.1 : Nat) : Int), u2.1.2) : LT) = u.1 ∧ u2.1.1 ≤ 20 * (j + 1)) := by
    rcases lw2 (n := T.2.2.1.1) (m := T.2.2.1.1) rfl hL1 hT2 with ⟨⟨a1, _⟩, a2, _⟩ | ⟨⟨a1, _⟩, a2, _⟩
    · exact ⟨by rw [a1, a2] <;> rfl, by rw [a2]; first | omega | (dsimp only; omega)⟩
    · exact ⟨by rw [a1, a2] <;> rfl, by rw [a2]; first | omega | (dsimp only; omega)⟩
  exact hgo H2 locs2 ls _ _ ⟨u2.1, u2.2.1, u.2.1, u.2.2.1, u.2.2.2, u2.2.2, g, by rw [hTT.1]; exact hC1, hR2, hTT.2, hP, hD, hS, by omega, by omega⟩ (lv_sub hl [0, 1, 2, 3, 4] rfl)
set_option maxHeartbeats 4000000 in
set_option maxRecDepth 100000 in
/-- the law's case 30: truth -/
theorem lc_30 {p : Program} {e : Env} {s : State} {m : MethodId} {below : List Frame} {meth : Method} {c : Code} (l : Launch) (hst : l.stackTraces = false) {b Ls : Nat} {xs : Nat → Int32} (hLs : Ls ≤ 384) (C0 : lw_At p s m meth c b Ls xs) {A : Nat → Prop} (dC : Nat → ClassId) (dI : Nat → Nat → Nat) (kX : Nat → ClassId) (kT : Nat → ClassId) (kM : Nat → ClassId) (kV : Nat → ClassId) (kC : Nat → ClassId) (kN : Nat → ClassId) (kJ : Nat → ClassId) (kL : Nat → ClassId) (kF : Nat → ClassId) (kO : Nat → ClassId) (kQ : Nat → ClassId) (kG : Nat → ClassId) (kw : ClassId) (kv : Nat → ClassId) (kR : ClassId) (E0 : LwC dC dI kX kT kM kV kC kN kJ kL kF kO kQ kG kw kv kR A s) {h1 h2 o j : Nat} (hj : 6 * j + 6 ≤ Ls) {H : Heap} {locs : List Loc} {ls : Array Slot} {cells slots : Nat} (hI : LwI dC dI kX kT kM kV kC kN kJ kL kF kO kQ kG kw kv kR A s h1 h2 o j H locs) (hl : lv_has ls 7 [(4, .int (nI (6 * j))), (3, .ref o), (2, .ref h2), (1, .ref h1), (0, .ref b)])
    (hgo : ∀ (H : Heap) (locs : List Loc) (ls : Array Slot) (cells slots : Nat), LwI dC dI kX kT kM kV kC kN kJ kL kF kO kQ kG kw kv kR A s h1 h2 o (j + 1) H locs → lv_has ls 7 [(4, .int (nI (6 * j))), (3, .ref o), (2, .ref h2), (1, .ref h1), (0, .ref b)] → W p l e room_1 s m #[Value.ref b] below meth c H locs cells slots (lw_Z below #[Value.ref b] s) (F0 m 1507 ls [])) : W p l e room_1 s m #[Value.ref b] below meth c H locs cells slots (lw_Z below #[Value.ref b] s) (F0 m 1168 ls []) := by
  obtain ⟨hx, hb, hr, hml, hown, hts, hX, hbl, hlocks, hgv⟩ := id C0
  have hb : c.code = cL_law := hb
  have hown : s.vm.findClass RL = some m.cls := hown
  obtain ⟨hA, hA2, hE, hT9, hNc, hKC, hKV, hKR⟩ := E0
  have hbA : ¬ A b := fun h => absurd (hA2 b h) (Nat.not_le.mpr hbl)
  obtain ⟨T, th, Fc, Fs, w, v, g, hC, hR, hT, hP, hD, hS, hz, hn⟩ := hI
  have hbd := hC.bd
  refine W.tight (cells2 := Fc + 1000 * j + 125) (slots2 := Fs + 9000 * j + 181434) hz hn ?_
  refine lv_aload_n hx hb dL_law_1168 rfl (lv_at hl 3 rfl) ?_
  refine lw_arg hx hb hX hbl hbA hS (lv_at hl 4 rfl) (lv_at hl 0 rfl) 1 (by omega) hLs (by decide) dL_law_1169 dL_law_1170 dL_law_1172 dL_law_1173 dL_law_1174 ?_
  refine lawC_i (y := yX11_truth) (ws := wsU_truth) (mc := 6) (ms := 8271) (As := [.int (xs (6 * j + 1))]) (rest := []) ⟨hx, hb, hml, hown, hts⟩ (U_truth l hst dC dI kX kT kM kV kC kN kJ kL kF kO kQ kG kw h1 (((T.1 : Nat) : Int), T.2) Fc Fs w (xs (6 * j + 1)) hC H.size) (cwV 1 hts gl_C_truth rfl rfl rfl (by decide +kernel) ⟨Nat.le_of_ble_eq_true rfl, Nat.le_of_ble_eq_true rfl⟩) hC.recv hKC hE hA hP hD hS rfl hl.1 (lv_room (Nat.le_of_ble_eq_true rfl)) dL_law_1175 ⟨show Fc + 1000 * j + 125 + 6 ≤ 327717 by omega, show Fs + 9000 * j + 181434 + 8271 ≤ 8118330 by omega⟩ (fun r1 u H1 locs1 hp hP hD hS hz1 hs1 => ?_)
  obtain ⟨hC1, hL1⟩ := hp
  refine W.tight (cells2 := u.2.1 + 1000 * (j + 1) + 125) (slots2 := u.2.2.1 + 9000 * (j + 1) + 181434) (by omega) (by omega) ?_
  have hbd1 := hC1.bd
  refine lv_pop hx hb dL_law_1178 rfl ?_
  refine lv_aload_n hx hb dL_law_1179 rfl (lv_at hl 2 rfl) ?_
  refine lw_arg hx hb hX hbl hbA hS (lv_at hl 4 rfl) (lv_at hl 0 rfl) 1 (by omega) hLs (by decide) dL_law_1180 dL_law_1181 dL_law_1183 dL_law_1184 dL_law_1185 ?_
  refine lawR_i (y := yX12_truth) (ws := wsRX12_truth) (mc := 0) (ms := 0) (As := [.int (xs (6 * j + 1))]) (rest := []) ⟨hx, hb, hml, hown, hts⟩ (R_truth l dC dI kv h2 T th v (xs (6 * j + 1)) hR H1.size) (cwV 1 hts gl_R_truth rfl rfl rfl (by decide +kernel) ⟨Nat.le_of_ble_eq_true rfl, Nat.le_of_ble_eq_true rfl⟩) hR.recv hKV hT9 hA hP hD hS rfl hl.1 (lv_room (Nat.le_of_ble_eq_true rfl)) dL_law_1186 ⟨show u.2.1 + 1000 * (j + 1) + 125 + 0 ≤ 327717 by omega, show u.2.2.1 + 9000 * (j + 1) + 181434 + 0 ≤ 8118330 by omega⟩ (fun r2 u2 H2 locs2 hp2 hP hD hS => ?_)
  obtain ⟨hR2, hT2⟩ := hp2
  refine lv_pop hx hb dL_law_1189 rfl ?_
  refine lv_goto (tgt := 1507) hx hb dL_law_1190 (by decide) ?_
  refine W.known (fun z1 z2 => ?_)
  have hL0 := hL1.1
  have hT0 := hT2.1
  have hTT : (((((u2.1.1 : Nat) : Int), u2.1.2) : LT) = u.1 ∧ u2.1.1 ≤ 20 * (j + 1)) := ⟨by rw [hL0, hT0] <;> rfl, by rw [hT0]; first | omega | (dsimp only; omega)⟩
  exact hgo H2 locs2 ls _ _ ⟨u2.1, u2.2.1, u.2.1, u.2.2.1, u.2.2.2, u2.2.2, g, by rw [hTT.1]; exact hC1, hR2, hTT.2, hP, hD, hS, by omega, by omega⟩ (lv_sub hl [0, 1, 2, 3, 4] rfl)
set_option maxHeartbeats 4000000 in
set_option maxRecDepth 100000 in
/-- the law's case 31: arc -/
theorem lc_31 {p : Program} {e : Env} {s : State} {m : MethodId} {below : List Frame} {meth : Method} {c : Code} (l : Launch) (hst : l.stackTraces = false) {b Ls : Nat} {xs : Nat → Int32} (hLs : Ls ≤ 384) (C0 : lw_At p s m meth c b Ls xs) {A : Nat → Prop} (dC : Nat → ClassId) (dI : Nat → Nat → Nat) (kX : Nat → ClassId) (kT : Nat → ClassId) (kM : Nat → ClassId) (kV : Nat → ClassId) (kC : Nat → ClassId) (kN : Nat → ClassId) (kJ : Nat → ClassId) (kL : Nat → ClassId) (kF : Nat → ClassId) (kO : Nat → ClassId) (kQ : Nat → ClassId) (kG : Nat → ClassId) (kw : ClassId) (kv : Nat → ClassId) (kR : ClassId) (E0 : LwC dC dI kX kT kM kV kC kN kJ kL kF kO kQ kG kw kv kR A s) {h1 h2 o j : Nat} (hj : 6 * j + 6 ≤ Ls) {H : Heap} {locs : List Loc} {ls : Array Slot} {cells slots : Nat} (hI : LwI dC dI kX kT kM kV kC kN kJ kL kF kO kQ kG kw kv kR A s h1 h2 o j H locs) (hl : lv_has ls 7 [(4, .int (nI (6 * j))), (3, .ref o), (2, .ref h2), (1, .ref h1), (0, .ref b)])
    (hgo : ∀ (H : Heap) (locs : List Loc) (ls : Array Slot) (cells slots : Nat), LwI dC dI kX kT kM kV kC kN kJ kL kF kO kQ kG kw kv kR A s h1 h2 o (j + 1) H locs → lv_has ls 7 [(4, .int (nI (6 * j))), (3, .ref o), (2, .ref h2), (1, .ref h1), (0, .ref b)] → W p l e room_1 s m #[Value.ref b] below meth c H locs cells slots (lw_Z below #[Value.ref b] s) (F0 m 1507 ls [])) : W p l e room_1 s m #[Value.ref b] below meth c H locs cells slots (lw_Z below #[Value.ref b] s) (F0 m 1193 ls []) := by
  obtain ⟨hx, hb, hr, hml, hown, hts, hX, hbl, hlocks, hgv⟩ := id C0
  have hb : c.code = cL_law := hb
  have hown : s.vm.findClass RL = some m.cls := hown
  obtain ⟨hA, hA2, hE, hT9, hNc, hKC, hKV, hKR⟩ := E0
  have hbA : ¬ A b := fun h => absurd (hA2 b h) (Nat.not_le.mpr hbl)
  obtain ⟨T, th, Fc, Fs, w, v, g, hC, hR, hT, hP, hD, hS, hz, hn⟩ := hI
  have hbd := hC.bd
  refine W.tight (cells2 := Fc + 1000 * j + 125) (slots2 := Fs + 9000 * j + 181434) hz hn ?_
  refine lv_aload_n hx hb dL_law_1193 rfl (lv_at hl 3 rfl) ?_
  refine lw_arg hx hb hX hbl hbA hS (lv_at hl 4 rfl) (lv_at hl 0 rfl) 1 (by omega) hLs (by decide) dL_law_1194 dL_law_1195 dL_law_1197 dL_law_1198 dL_law_1199 ?_
  refine lw_arg hx hb hX hbl hbA hS (lv_at hl 4 rfl) (lv_at hl 0 rfl) 2 (by omega) hLs (by decide) dL_law_1200 dL_law_1201 dL_law_1203 dL_law_1204 dL_law_1205 ?_
  refine lw_arg hx hb hX hbl hbA hS (lv_at hl 4 rfl) (lv_at hl 0 rfl) 3 (by omega) hLs (by decide) dL_law_1206 dL_law_1207 dL_law_1209 dL_law_1210 dL_law_1211 ?_
  refine lw_arg hx hb hX hbl hbA hS (lv_at hl 4 rfl) (lv_at hl 0 rfl) 4 (by omega) hLs (by decide) dL_law_1212 dL_law_1213 dL_law_1215 dL_law_1216 dL_law_1217 ?_
  refine lv_aload_n hx hb dL_law_1218 rfl (lv_at hl 1 rfl) ?_
  refine lawH_i (y := yL_arc) (ws := wsH_arc) (mc := 13) (ms := 1484) (As := [.ref h1, .int (xs (6 * j + 1)), .int (xs (6 * j + 2)), .int (xs (6 * j + 3)), .int (xs (6 * j + 4)), .ref o]) (rest := []) ⟨hx, hb, hml, hown, hts⟩ (H_arc l hst dC dI kX kT kM kV kC kN kJ kL kF kO kQ kG kw h1 (((T.1 : Nat) : Int), T.2) Fc Fs w (xs (6 * j + 1)) (xs (6 * j + 2)) (xs (6 * j + 3)) (xs (6 * j + 4)) o kR g hC H.size) (vx_cwSW 6 hts gl_H_arc rfl rfl rfl (by decide +kernel) ⟨Nat.le_of_ble_eq_true rfl, Nat.le_of_ble_eq_true rfl⟩) (hKR.app hKC) hE hNc hA hP hD hS rfl hl.1 (lv_room (Nat.le_of_ble_eq_true rfl)) dL_law_1219 ⟨show Fc + 1000 * j + 125 + 13 ≤ 327717 by omega, show Fs + 9000 * j + 181434 + 1484 ≤ 8118330 by omega⟩ (fun r1 u H1 locs1 hp hP hD hS hz1 hs1 => ?_)
  obtain ⟨hC1, hL1⟩ := hp
  refine W.tight (cells2 := u.2.1 + 1000 * (j + 1) + 125) (slots2 := u.2.2.1 + 9000 * (j + 1) + 181434) (by omega) (by omega) ?_
  have hbd1 := hC1.bd
  refine lv_istore hx hb dL_law_1222 hl (by decide) rfl (fun ls (hl : lv_has ls _ ([(5, .int r1), (4, .int (nI (6 * j))), (3, .ref o), (2, .ref h2), (1, .ref h1), (0, .ref b)])) => ?_)
  refine lv_aload_n hx hb dL_law_1224 rfl (lv_at hl 3 rfl) ?_
  refine lw_arg hx hb hX hbl hbA hS (lv_at hl 5 rfl) (lv_at hl 1 rfl) 1 (by omega) hLs (by decide) dL_law_1225 dL_law_1226 dL_law_1228 dL_law_1229 dL_law_1230 ?_
  refine lw_arg hx hb hX hbl hbA hS (lv_at hl 5 rfl) (lv_at hl 1 rfl) 2 (by omega) hLs (by decide) dL_law_1231 dL_law_1232 dL_law_1234 dL_law_1235 dL_law_1236 ?_
  refine lw_arg hx hb hX hbl hbA hS (lv_at hl 5 rfl) (lv_at hl 1 rfl) 3 (by omega) hLs (by decide) dL_law_1237 dL_law_1238 dL_law_1240 dL_law_1241 dL_law_1242 ?_
  refine lw_arg hx hb hX hbl hbA hS (lv_at hl 5 rfl) (lv_at hl 1 rfl) 4 (by omega) hLs (by decide) dL_law_1243 dL_law_1244 dL_law_1246 dL_law_1247 dL_law_1248 ?_
  refine lawR_i (y := yX12_arc) (ws := wsRX12_arc) (mc := 0) (ms := 0) (As := [.int (xs (6 * j + 1)), .int (xs (6 * j + 2)), .int (xs (6 * j + 3)), .int (xs (6 * j + 4))]) (rest := []) ⟨hx, hb, hml, hown, hts⟩ (R_arc l dC dI kv h2 T th v (xs (6 * j + 1)) (xs (6 * j + 2)) (xs (6 * j + 3)) (xs (6 * j + 4)) hR H1.size) (cwV 4 hts gl_R_arc rfl rfl rfl (by decide +kernel) ⟨Nat.le_of_ble_eq_true rfl, Nat.le_of_ble_eq_true rfl⟩) hR.recv hKV hT9 hA hP hD hS rfl hl.1 (lv_room (Nat.le_of_ble_eq_true rfl)) dL_law_1249 ⟨show u.2.1 + 1000 * (j + 1) + 125 + 0 ≤ 327717 by omega, show u.2.2.1 + 9000 * (j + 1) + 181434 + 0 ≤ 8118330 by omega⟩ (fun r2 u2 H2 locs2 hp2 hP hD hS => ?_)
  obtain ⟨hR2, hT2⟩ := hp2
  refine lv_istore hx hb dL_law_1252 hl (by decide) rfl (fun ls (hl : lv_has ls _ ([(6, .int r2), (5, .int r1), (4, .int (nI (6 * j))), (3, .ref o), (2, .ref h2), (1, .ref h1), (0, .ref b)])) => ?_)
  refine lv_goto (tgt := 1507) hx hb dL_law_1254 (by decide) ?_
  refine W.known (fun z1 z2 => ?_)
  have hTT : (((((u2.1.1 : Nat) : Int), u2.1.2) : LT) = u.1 ∧ u2.1.1 ≤ 20 * (j + 1)) := by
    rcases lw3 (n := T.2.1.1) (m := T.2.1.1) rfl hL1 hT2 with ⟨⟨a1, _⟩, a2, _⟩ | ⟨⟨a1, _⟩, a2, _⟩ | ⟨⟨a1, _⟩, a2, _⟩
    · exact ⟨by rw [a1, a2] <;> rfl, by rw [a2]; first | omega | (dsimp only; omega)⟩
    · exact ⟨by rw [a1, a2] <;> rfl, by rw [a2]; first | omega | (dsimp only; omega)⟩
    · exact ⟨by rw [a1, a2] <;> rfl, by rw [a2]; first | omega | (dsimp only; omega)⟩
  exact hgo H2 locs2 ls _ _ ⟨u2.1, u2.2.1, u.2.1, u.2.2.1, u.2.2.2.1, u2.2.2, u.2.2.2.2, by rw [hTT.1]; exact hC1, hR2, hTT.2, hP, hD, hS, by omega, by omega⟩ (lv_sub hl [2, 3, 4, 5, 6] rfl)
set_option maxHeartbeats 4000000 in
set_option maxRecDepth 100000 in
/-- the law's case 32: unarc -/
theorem lc_32 {p : Program} {e : Env} {s : State} {m : MethodId} {below : List Frame} {meth : Method} {c : Code} (l : Launch) (hst : l.stackTraces = false) {b Ls : Nat} {xs : Nat → Int32} (hLs : Ls ≤ 384) (C0 : lw_At p s m meth c b Ls xs) {A : Nat → Prop} (dC : Nat → ClassId) (dI : Nat → Nat → Nat) (kX : Nat → ClassId) (kT : Nat → ClassId) (kM : Nat → ClassId) (kV : Nat → ClassId) (kC : Nat → ClassId) (kN : Nat → ClassId) (kJ : Nat → ClassId) (kL : Nat → ClassId) (kF : Nat → ClassId) (kO : Nat → ClassId) (kQ : Nat → ClassId) (kG : Nat → ClassId) (kw : ClassId) (kv : Nat → ClassId) (kR : ClassId) (E0 : LwC dC dI kX kT kM kV kC kN kJ kL kF kO kQ kG kw kv kR A s) {h1 h2 o j : Nat} (hj : 6 * j + 6 ≤ Ls) {H : Heap} {locs : List Loc} {ls : Array Slot} {cells slots : Nat} (hI : LwI dC dI kX kT kM kV kC kN kJ kL kF kO kQ kG kw kv kR A s h1 h2 o j H locs) (hl : lv_has ls 7 [(4, .int (nI (6 * j))), (3, .ref o), (2, .ref h2), (1, .ref h1), (0, .ref b)])
    (hgo : ∀ (H : Heap) (locs : List Loc) (ls : Array Slot) (cells slots : Nat), LwI dC dI kX kT kM kV kC kN kJ kL kF kO kQ kG kw kv kR A s h1 h2 o (j + 1) H locs → lv_has ls 7 [(4, .int (nI (6 * j))), (3, .ref o), (2, .ref h2), (1, .ref h1), (0, .ref b)] → W p l e room_1 s m #[Value.ref b] below meth c H locs cells slots (lw_Z below #[Value.ref b] s) (F0 m 1507 ls [])) : W p l e room_1 s m #[Value.ref b] below meth c H locs cells slots (lw_Z below #[Value.ref b] s) (F0 m 1257 ls []) := by
  obtain ⟨hx, hb, hr, hml, hown, hts, hX, hbl, hlocks, hgv⟩ := id C0
  have hb : c.code = cL_law := hb
  have hown : s.vm.findClass RL = some m.cls := hown
  obtain ⟨hA, hA2, hE, hT9, hNc, hKC, hKV, hKR⟩ := E0
  have hbA : ¬ A b := fun h => absurd (hA2 b h) (Nat.not_le.mpr hbl)
  obtain ⟨T, th, Fc, Fs, w, v, g, hC, hR, hT, hP, hD, hS, hz, hn⟩ := hI
  have hbd := hC.bd
  refine W.tight (cells2 := Fc + 1000 * j + 125) (slots2 := Fs + 9000 * j + 181434) hz hn ?_
  refine lv_aload_n hx hb dL_law_1257 rfl (lv_at hl 3 rfl) ?_
  refine lawC_i (y := yX11_unarc) (ws := wsU_unarc) (mc := 12) (ms := 1478) (As := []) (rest := []) ⟨hx, hb, hml, hown, hts⟩ (U_unarc l hst dC dI kX kT kM kV kC kN kJ kL kF kO kQ kG kw h1 (((T.1 : Nat) : Int), T.2) Fc Fs w hC H.size) (cwV 0 hts gl_C_unarc rfl rfl rfl (by decide +kernel) ⟨Nat.le_of_ble_eq_true rfl, Nat.le_of_ble_eq_true rfl⟩) hC.recv hKC hE hA hP hD hS rfl hl.1 (lv_room (Nat.le_of_ble_eq_true rfl)) dL_law_1258 ⟨show Fc + 1000 * j + 125 + 12 ≤ 327717 by omega, show Fs + 9000 * j + 181434 + 1478 ≤ 8118330 by omega⟩ (fun r1 u H1 locs1 hp hP hD hS hz1 hs1 => ?_)
  obtain ⟨hC1, hL1⟩ := hp
  refine W.tight (cells2 := u.2.1 + 1000 * (j + 1) + 125) (slots2 := u.2.2.1 + 9000 * (j + 1) + 181434) (by omega) (by omega) ?_
  have hbd1 := hC1.bd
  refine lv_aload_n hx hb dL_law_1261 rfl (lv_at hl 2 rfl) ?_
  refine lawR_i (y := yX12_unarc) (ws := wsRX12_unarc) (mc := 0) (ms := 0) (As := []) (rest := [.int r1]) ⟨hx, hb, hml, hown, hts⟩ (R_unarc l dC dI kv h2 T th v hR H1.size) (cwV 0 hts gl_R_unarc rfl rfl rfl (by decide +kernel) ⟨Nat.le_of_ble_eq_true rfl, Nat.le_of_ble_eq_true rfl⟩) hR.recv hKV hT9 hA hP hD hS rfl hl.1 (lv_room (Nat.le_of_ble_eq_true rfl)) dL_law_1262 ⟨show u.2.1 + 1000 * (j + 1) + 125 + 0 ≤ 327717 by omega, show u.2.2.1 + 9000 * (j + 1) + 181434 + 0 ≤ 8118330 by omega⟩ (fun r2 u2 H2 locs2 hp2 hP hD hS => ?_)
  obtain ⟨hR2, hT2⟩ := hp2
  have hrr : r1 = r2 := by
    rw [← Int32.toInt_inj]
    rcases lw2 (n := T.2.1.1) (m := T.2.1.1) rfl hL1 hT2 with ⟨⟨_, a1⟩, _, a2⟩ | ⟨⟨_, a1⟩, _, a2⟩
    · rw [a1, a2] <;> decide
    · rw [a1, a2] <;> decide
  refine lv_icmp_eq (tgt := 1507) hx hb dL_law_1265 (by decide) (fun _ => ?_) (fun c9 => absurd hrr c9)
  refine W.known (fun z1 z2 => ?_)
  have hTT : (((((u2.1.1 : Nat) : Int), u2.1.2) : LT) = u.1 ∧ u2.1.1 ≤ 20 * (j + 1)) := by
    rcases lw2 (n := T.2.1.1) (m := T.2.1.1) rfl hL1 hT2 with ⟨⟨a1, _⟩, a2, _⟩ | ⟨⟨a1, _⟩, a2, _⟩
    · exact ⟨by rw [a1, a2] <;> rfl, by rw [a2]; first | omega | (dsimp only; omega)⟩
    · exact ⟨by rw [a1, a2] <;> rfl, by rw [a2]; first | omega | (dsimp only; omega)⟩
  exact hgo H2 locs2 ls _ _ ⟨u2.1, u2.2.1, u.2.1, u.2.2.1, u.2.2.2, u2.2.2, g, by rw [hTT.1]; exact hC1, hR2, hTT.2, hP, hD, hS, by omega, by omega⟩ (lv_sub hl [0, 1, 2, 3, 4] rfl)
set_option maxHeartbeats 4000000 in
set_option maxRecDepth 100000 in
/-- the law's case 33: greatest -/
theorem lc_33 {p : Program} {e : Env} {s : State} {m : MethodId} {below : List Frame} {meth : Method} {c : Code} (l : Launch) (hst : l.stackTraces = false) {b Ls : Nat} {xs : Nat → Int32} (hLs : Ls ≤ 384) (C0 : lw_At p s m meth c b Ls xs) {A : Nat → Prop} (dC : Nat → ClassId) (dI : Nat → Nat → Nat) (kX : Nat → ClassId) (kT : Nat → ClassId) (kM : Nat → ClassId) (kV : Nat → ClassId) (kC : Nat → ClassId) (kN : Nat → ClassId) (kJ : Nat → ClassId) (kL : Nat → ClassId) (kF : Nat → ClassId) (kO : Nat → ClassId) (kQ : Nat → ClassId) (kG : Nat → ClassId) (kw : ClassId) (kv : Nat → ClassId) (kR : ClassId) (E0 : LwC dC dI kX kT kM kV kC kN kJ kL kF kO kQ kG kw kv kR A s) {h1 h2 o j : Nat} (hj : 6 * j + 6 ≤ Ls) {H : Heap} {locs : List Loc} {ls : Array Slot} {cells slots : Nat} (hI : LwI dC dI kX kT kM kV kC kN kJ kL kF kO kQ kG kw kv kR A s h1 h2 o j H locs) (hl : lv_has ls 7 [(4, .int (nI (6 * j))), (3, .ref o), (2, .ref h2), (1, .ref h1), (0, .ref b)])
    (hgo : ∀ (H : Heap) (locs : List Loc) (ls : Array Slot) (cells slots : Nat), LwI dC dI kX kT kM kV kC kN kJ kL kF kO kQ kG kw kv kR A s h1 h2 o (j + 1) H locs → lv_has ls 7 [(4, .int (nI (6 * j))), (3, .ref o), (2, .ref h2), (1, .ref h1), (0, .ref b)] → W p l e room_1 s m #[Value.ref b] below meth c H locs cells slots (lw_Z below #[Value.ref b] s) (F0 m 1507 ls [])) : W p l e room_1 s m #[Value.ref b] below meth c H locs cells slots (lw_Z below #[Value.ref b] s) (F0 m 1270 ls []) := by
  obtain ⟨hx, hb, hr, hml, hown, hts, hX, hbl, hlocks, hgv⟩ := id C0
  have hb : c.code = cL_law := hb
  have hown : s.vm.findClass RL = some m.cls := hown
  obtain ⟨hA, hA2, hE, hT9, hNc, hKC, hKV, hKR⟩ := E0
  have hbA : ¬ A b := fun h => absurd (hA2 b h) (Nat.not_le.mpr hbl)
  obtain ⟨T, th, Fc, Fs, w, v, g, hC, hR, hT, hP, hD, hS, hz, hn⟩ := hI
  have hbd := hC.bd
  refine W.tight (cells2 := Fc + 1000 * j + 125) (slots2 := Fs + 9000 * j + 181434) hz hn ?_
  refine lv_aload_n hx hb dL_law_1270 rfl (lv_at hl 3 rfl) ?_
  refine lw_arg hx hb hX hbl hbA hS (lv_at hl 4 rfl) (lv_at hl 0 rfl) 1 (by omega) hLs (by decide) dL_law_1271 dL_law_1272 dL_law_1274 dL_law_1275 dL_law_1276 ?_
  refine lw_arg hx hb hX hbl hbA hS (lv_at hl 4 rfl) (lv_at hl 0 rfl) 2 (by omega) hLs (by decide) dL_law_1277 dL_law_1278 dL_law_1280 dL_law_1281 dL_law_1282 ?_
  refine lv_aload_n hx hb dL_law_1283 rfl (lv_at hl 1 rfl) ?_
  refine lawH_i (y := yL_greatest) (ws := wsH_greatest) (mc := 12) (ms := 1478) (As := [.ref h1, .int (xs (6 * j + 1)), .int (xs (6 * j + 2)), .ref o]) (rest := []) ⟨hx, hb, hml, hown, hts⟩ (H_greatest l hst dC dI kX kT kM kV kC kN kJ kL kF kO kQ kG kw h1 (((T.1 : Nat) : Int), T.2) Fc Fs w (xs (6 * j + 1)) (xs (6 * j + 2)) o kR g hC hR.val hR.rm H.size) (vx_cwSW 4 hts gl_H_greatest rfl rfl rfl (by decide +kernel) ⟨Nat.le_of_ble_eq_true rfl, Nat.le_of_ble_eq_true rfl⟩) (hKR.app hKC) hE hNc hA hP hD hS rfl hl.1 (lv_room (Nat.le_of_ble_eq_true rfl)) dL_law_1284 ⟨show Fc + 1000 * j + 125 + 12 ≤ 327717 by omega, show Fs + 9000 * j + 181434 + 1478 ≤ 8118330 by omega⟩ (fun r1 u H1 locs1 hp hP hD hS hz1 hs1 => ?_)
  obtain ⟨hC1, hL1⟩ := hp
  refine W.tight (cells2 := u.2.1 + 1000 * (j + 1) + 125) (slots2 := u.2.2.1 + 9000 * (j + 1) + 181434) (by omega) (by omega) ?_
  have hbd1 := hC1.bd
  refine lv_istore hx hb dL_law_1287 hl (by decide) rfl (fun ls (hl : lv_has ls _ ([(5, .int r1), (4, .int (nI (6 * j))), (3, .ref o), (2, .ref h2), (1, .ref h1), (0, .ref b)])) => ?_)
  refine lv_aload_n hx hb dL_law_1289 rfl (lv_at hl 3 rfl) ?_
  refine lw_arg hx hb hX hbl hbA hS (lv_at hl 5 rfl) (lv_at hl 1 rfl) 1 (by omega) hLs (by decide) dL_law_1290 dL_law_1291 dL_law_1293 dL_law_1294 dL_law_1295 ?_
  refine lw_arg hx hb hX hbl hbA hS (lv_at hl 5 rfl) (lv_at hl 1 rfl) 2 (by omega) hLs (by decide) dL_law_1296 dL_law_1297 dL_law_1299 dL_law_1300 dL_law_1301 ?_
  refine lawR_i (y := yX12_greatest) (ws := wsRX12_greatest) (mc := 0) (ms := 0) (As := [.int (xs (6 * j + 1)), .int (xs (6 * j + 2))]) (rest := []) ⟨hx, hb, hml, hown, hts⟩ (R_greatest l dC dI kv h2 T th v (xs (6 * j + 1)) (xs (6 * j + 2)) hR H1.size) (cwV 2 hts gl_R_greatest rfl rfl rfl (by decide +kernel) ⟨Nat.le_of_ble_eq_true rfl, Nat.le_of_ble_eq_true rfl⟩) hR.recv hKV hT9 hA hP hD hS rfl hl.1 (lv_room (Nat.le_of_ble_eq_true rfl)) dL_law_1302 ⟨show u.2.1 + 1000 * (j + 1) + 125 + 0 ≤ 327717 by omega, show u.2.2.1 + 9000 * (j + 1) + 181434 + 0 ≤ 8118330 by omega⟩ (fun r2 u2 H2 locs2 hp2 hP hD hS => ?_)
  obtain ⟨hR2, hT2⟩ := hp2
  refine lv_istore hx hb dL_law_1305 hl (by decide) rfl (fun ls (hl : lv_has ls _ ([(6, .int r2), (5, .int r1), (4, .int (nI (6 * j))), (3, .ref o), (2, .ref h2), (1, .ref h1), (0, .ref b)])) => ?_)
  refine lv_goto (tgt := 1507) hx hb dL_law_1307 (by decide) ?_
  refine W.known (fun z1 z2 => ?_)
  have hTT : (((((u2.1.1 : Nat) : Int), u2.1.2) : LT) = u.1 ∧ u2.1.1 ≤ 20 * (j + 1)) := by
    rcases lw3c hL1 hT2 with ⟨⟨a1, _⟩, a2, _⟩ | ⟨⟨a1, _⟩, a2, _⟩ | ⟨_, ⟨a1, _⟩, a2, _⟩
    · exact ⟨by rw [a1, a2] <;> rfl, by rw [a2]; first | omega | (dsimp only; omega)⟩
    · exact ⟨by rw [a1, a2] <;> rfl, by rw [a2]; first | omega | (dsimp only; omega)⟩
    · exact ⟨by rw [a1, a2] <;> rfl, by rw [a2]; first | omega | (dsimp only; omega)⟩
  exact hgo H2 locs2 ls _ _ ⟨u2.1, u2.2.1, u.2.1, u.2.2.1, u.2.2.2.1, u2.2.2, u.2.2.2.2, by rw [hTT.1]; exact hC1, hR2, hTT.2, hP, hD, hS, by omega, by omega⟩ (lv_sub hl [2, 3, 4, 5, 6] rfl)
set_option maxHeartbeats 4000000 in
set_option maxRecDepth 100000 in
/-- the law's case 34: cut -/
theorem lc_34 {p : Program} {e : Env} {s : State} {m : MethodId} {below : List Frame} {meth : Method} {c : Code} (l : Launch) (hst : l.stackTraces = false) {b Ls : Nat} {xs : Nat → Int32} (hLs : Ls ≤ 384) (C0 : lw_At p s m meth c b Ls xs) {A : Nat → Prop} (dC : Nat → ClassId) (dI : Nat → Nat → Nat) (kX : Nat → ClassId) (kT : Nat → ClassId) (kM : Nat → ClassId) (kV : Nat → ClassId) (kC : Nat → ClassId) (kN : Nat → ClassId) (kJ : Nat → ClassId) (kL : Nat → ClassId) (kF : Nat → ClassId) (kO : Nat → ClassId) (kQ : Nat → ClassId) (kG : Nat → ClassId) (kw : ClassId) (kv : Nat → ClassId) (kR : ClassId) (E0 : LwC dC dI kX kT kM kV kC kN kJ kL kF kO kQ kG kw kv kR A s) {h1 h2 o j : Nat} (hj : 6 * j + 6 ≤ Ls) {H : Heap} {locs : List Loc} {ls : Array Slot} {cells slots : Nat} (hI : LwI dC dI kX kT kM kV kC kN kJ kL kF kO kQ kG kw kv kR A s h1 h2 o j H locs) (hl : lv_has ls 7 [(4, .int (nI (6 * j))), (3, .ref o), (2, .ref h2), (1, .ref h1), (0, .ref b)])
    (hgo : ∀ (H : Heap) (locs : List Loc) (ls : Array Slot) (cells slots : Nat), LwI dC dI kX kT kM kV kC kN kJ kL kF kO kQ kG kw kv kR A s h1 h2 o (j + 1) H locs → lv_has ls 7 [(4, .int (nI (6 * j))), (3, .ref o), (2, .ref h2), (1, .ref h1), (0, .ref b)] → W p l e room_1 s m #[Value.ref b] below meth c H locs cells slots (lw_Z below #[Value.ref b] s) (F0 m 1507 ls [])) : W p l e room_1 s m #[Value.ref b] below meth c H locs cells slots (lw_Z below #[Value.ref b] s) (F0 m 1310 ls []) := by
  obtain ⟨hx, hb, hr, hml, hown, hts, hX, hbl, hlocks, hgv⟩ := id C0
  have hb : c.code = cL_law := hb
  have hown : s.vm.findClass RL = some m.cls := hown
  obtain ⟨hA, hA2, hE, hT9, hNc, hKC, hKV, hKR⟩ := E0
  have hbA : ¬ A b := fun h => absurd (hA2 b h) (Nat.not_le.mpr hbl)
  obtain ⟨T, th, Fc, Fs, w, v, g, hC, hR, hT, hP, hD, hS, hz, hn⟩ := hI
  have hbd := hC.bd
  refine W.tight (cells2 := Fc + 1000 * j + 125) (slots2 := Fs + 9000 * j + 181434) hz hn ?_
  refine lv_aload_n hx hb dL_law_1310 rfl (lv_at hl 3 rfl) ?_
  refine lw_arg hx hb hX hbl hbA hS (lv_at hl 4 rfl) (lv_at hl 0 rfl) 1 (by omega) hLs (by decide) dL_law_1311 dL_law_1312 dL_law_1314 dL_law_1315 dL_law_1316 ?_
  refine lw_arg hx hb hX hbl hbA hS (lv_at hl 4 rfl) (lv_at hl 0 rfl) 2 (by omega) hLs (by decide) dL_law_1317 dL_law_1318 dL_law_1320 dL_law_1321 dL_law_1322 ?_
  refine lv_aload_n hx hb dL_law_1323 rfl (lv_at hl 1 rfl) ?_
  refine lawH_i (y := yL_cut) (ws := wsH_cut) (mc := 12) (ms := 1478) (As := [.ref h1, .int (xs (6 * j + 1)), .int (xs (6 * j + 2)), .ref o]) (rest := []) ⟨hx, hb, hml, hown, hts⟩ (H_cut l hst dC dI kX kT kM kV kC kN kJ kL kF kO kQ kG kw h1 (((T.1 : Nat) : Int), T.2) Fc Fs w (xs (6 * j + 1)) (xs (6 * j + 2)) o kR g hC hR.val hR.rm H.size) (vx_cwSW 4 hts gl_H_cut rfl rfl rfl (by decide +kernel) ⟨Nat.le_of_ble_eq_true rfl, Nat.le_of_ble_eq_true rfl⟩) (hKR.app hKC) hE hNc hA hP hD hS rfl hl.1 (lv_room (Nat.le_of_ble_eq_true rfl)) dL_law_1324 ⟨show Fc + 1000 * j + 125 + 12 ≤ 327717 by omega, show Fs + 9000 * j + 181434 + 1478 ≤ 8118330 by omega⟩ (fun r1 u H1 locs1 hp hP hD hS hz1 hs1 => ?_)
  obtain ⟨hC1, hL1⟩ := hp
  refine W.tight (cells2 := u.2.1 + 1000 * (j + 1) + 125) (slots2 := u.2.2.1 + 9000 * (j + 1) + 181434) (by omega) (by omega) ?_
  have hbd1 := hC1.bd
  refine lv_istore hx hb dL_law_1327 hl (by decide) rfl (fun ls (hl : lv_has ls _ ([(5, .int r1), (4, .int (nI (6 * j))), (3, .ref o), (2, .ref h2), (1, .ref h1), (0, .ref b)])) => ?_)
  refine lv_aload_n hx hb dL_law_1329 rfl (lv_at hl 3 rfl) ?_
  refine lw_arg hx hb hX hbl hbA hS (lv_at hl 5 rfl) (lv_at hl 1 rfl) 1 (by omega) hLs (by decide) dL_law_1330 dL_law_1331 dL_law_1333 dL_law_1334 dL_law_1335 ?_
  refine lw_arg hx hb hX hbl hbA hS (lv_at hl 5 rfl) (lv_at hl 1 rfl) 2 (by omega) hLs (by decide) dL_law_1336 dL_law_1337 dL_law_1339 dL_law_1340 dL_law_1341 ?_
  refine lawR_i (y := yX12_cut) (ws := wsRX12_cut) (mc := 0) (ms := 0) (As := [.int (xs (6 * j + 1)), .int (xs (6 * j + 2))]) (rest := []) ⟨hx, hb, hml, hown, hts⟩ (R_cut l dC dI kv h2 T th v (xs (6 * j + 1)) (xs (6 * j + 2)) hR H1.size) (cwV 2 hts gl_R_cut rfl rfl rfl (by decide +kernel) ⟨Nat.le_of_ble_eq_true rfl, Nat.le_of_ble_eq_true rfl⟩) hR.recv hKV hT9 hA hP hD hS rfl hl.1 (lv_room (Nat.le_of_ble_eq_true rfl)) dL_law_1342 ⟨show u.2.1 + 1000 * (j + 1) + 125 + 0 ≤ 327717 by omega, show u.2.2.1 + 9000 * (j + 1) + 181434 + 0 ≤ 8118330 by omega⟩ (fun r2 u2 H2 locs2 hp2 hP hD hS => ?_)
  obtain ⟨hR2, hT2⟩ := hp2
  refine lv_istore hx hb dL_law_1345 hl (by decide) rfl (fun ls (hl : lv_has ls _ ([(6, .int r2), (5, .int r1), (4, .int (nI (6 * j))), (3, .ref o), (2, .ref h2), (1, .ref h1), (0, .ref b)])) => ?_)
  refine lv_goto (tgt := 1507) hx hb dL_law_1347 (by decide) ?_
  refine W.known (fun z1 z2 => ?_)
  have hTT : (((((u2.1.1 : Nat) : Int), u2.1.2) : LT) = u.1 ∧ u2.1.1 ≤ 20 * (j + 1)) := by
    rcases lw3c hL1 hT2 with ⟨⟨a1, _⟩, a2, _⟩ | ⟨⟨a1, _⟩, a2, _⟩ | ⟨_, ⟨a1, _⟩, a2, _⟩
    · exact ⟨by rw [a1, a2] <;> rfl, by rw [a2]; first | omega | (dsimp only; omega)⟩
    · exact ⟨by rw [a1, a2] <;> rfl, by rw [a2]; first | omega | (dsimp only; omega)⟩
    · exact ⟨by rw [a1, a2] <;> rfl, by rw [a2]; first | omega | (dsimp only; omega)⟩
  exact hgo H2 locs2 ls _ _ ⟨u2.1, u2.2.1, u.2.1, u.2.2.1, u.2.2.2.1, u2.2.2, u.2.2.2.2, by rw [hTT.1]; exact hC1, hR2, hTT.2, hP, hD, hS, by omega, by omega⟩ (lv_sub hl [2, 3, 4, 5, 6] rfl)
set_option maxHeartbeats 4000000 in
set_option maxRecDepth 100000 in
/-- the law's case 35: cheapest -/
theorem lc_35 {p : Program} {e : Env} {s : State} {m : MethodId} {below : List Frame} {meth : Method} {c : Code} (l : Launch) (hst : l.stackTraces = false) {b Ls : Nat} {xs : Nat → Int32} (hLs : Ls ≤ 384) (C0 : lw_At p s m meth c b Ls xs) {A : Nat → Prop} (dC : Nat → ClassId) (dI : Nat → Nat → Nat) (kX : Nat → ClassId) (kT : Nat → ClassId) (kM : Nat → ClassId) (kV : Nat → ClassId) (kC : Nat → ClassId) (kN : Nat → ClassId) (kJ : Nat → ClassId) (kL : Nat → ClassId) (kF : Nat → ClassId) (kO : Nat → ClassId) (kQ : Nat → ClassId) (kG : Nat → ClassId) (kw : ClassId) (kv : Nat → ClassId) (kR : ClassId) (E0 : LwC dC dI kX kT kM kV kC kN kJ kL kF kO kQ kG kw kv kR A s) {h1 h2 o j : Nat} (hj : 6 * j + 6 ≤ Ls) {H : Heap} {locs : List Loc} {ls : Array Slot} {cells slots : Nat} (hI : LwI dC dI kX kT kM kV kC kN kJ kL kF kO kQ kG kw kv kR A s h1 h2 o j H locs) (hl : lv_has ls 7 [(4, .int (nI (6 * j))), (3, .ref o), (2, .ref h2), (1, .ref h1), (0, .ref b)])
    (hgo : ∀ (H : Heap) (locs : List Loc) (ls : Array Slot) (cells slots : Nat), LwI dC dI kX kT kM kV kC kN kJ kL kF kO kQ kG kw kv kR A s h1 h2 o (j + 1) H locs → lv_has ls 7 [(4, .int (nI (6 * j))), (3, .ref o), (2, .ref h2), (1, .ref h1), (0, .ref b)] → W p l e room_1 s m #[Value.ref b] below meth c H locs cells slots (lw_Z below #[Value.ref b] s) (F0 m 1507 ls [])) : W p l e room_1 s m #[Value.ref b] below meth c H locs cells slots (lw_Z below #[Value.ref b] s) (F0 m 1350 ls []) := by
  obtain ⟨hx, hb, hr, hml, hown, hts, hX, hbl, hlocks, hgv⟩ := id C0
  have hb : c.code = cL_law := hb
  have hown : s.vm.findClass RL = some m.cls := hown
  obtain ⟨hA, hA2, hE, hT9, hNc, hKC, hKV, hKR⟩ := E0
  have hbA : ¬ A b := fun h => absurd (hA2 b h) (Nat.not_le.mpr hbl)
  obtain ⟨T, th, Fc, Fs, w, v, g, hC, hR, hT, hP, hD, hS, hz, hn⟩ := hI
  have hbd := hC.bd
  refine W.tight (cells2 := Fc + 1000 * j + 125) (slots2 := Fs + 9000 * j + 181434) hz hn ?_
  refine lv_aload_n hx hb dL_law_1350 rfl (lv_at hl 3 rfl) ?_
  refine lw_arg hx hb hX hbl hbA hS (lv_at hl 4 rfl) (lv_at hl 0 rfl) 1 (by omega) hLs (by decide) dL_law_1351 dL_law_1352 dL_law_1354 dL_law_1355 dL_law_1356 ?_
  refine lw_arg hx hb hX hbl hbA hS (lv_at hl 4 rfl) (lv_at hl 0 rfl) 2 (by omega) hLs (by decide) dL_law_1357 dL_law_1358 dL_law_1360 dL_law_1361 dL_law_1362 ?_
  refine lw_arg hx hb hX hbl hbA hS (lv_at hl 4 rfl) (lv_at hl 0 rfl) 3 (by omega) hLs (by decide) dL_law_1363 dL_law_1364 dL_law_1366 dL_law_1367 dL_law_1368 ?_
  refine lv_aload_n hx hb dL_law_1369 rfl (lv_at hl 1 rfl) ?_
  refine lawH_i (y := yL_cheapest) (ws := wsH_cheapest) (mc := 12) (ms := 1478) (As := [.ref h1, .int (xs (6 * j + 1)), .int (xs (6 * j + 2)), .int (xs (6 * j + 3)), .ref o]) (rest := []) ⟨hx, hb, hml, hown, hts⟩ (H_cheapest l hst dC dI kX kT kM kV kC kN kJ kL kF kO kQ kG kw h1 (((T.1 : Nat) : Int), T.2) Fc Fs w (xs (6 * j + 1)) (xs (6 * j + 2)) (xs (6 * j + 3)) o kR g hC hR.aro H.size) (vx_cwSW 5 hts gl_H_cheapest rfl rfl rfl (by decide +kernel) ⟨Nat.le_of_ble_eq_true rfl, Nat.le_of_ble_eq_true rfl⟩) (hKR.app hKC) hE hNc hA hP hD hS rfl hl.1 (lv_room (Nat.le_of_ble_eq_true rfl)) dL_law_1370 ⟨show Fc + 1000 * j + 125 + 12 ≤ 327717 by omega, show Fs + 9000 * j + 181434 + 1478 ≤ 8118330 by omega⟩ (fun r1 u H1 locs1 hp hP hD hS hz1 hs1 => ?_)
  obtain ⟨hC1, hL1⟩ := hp
  refine W.tight (cells2 := u.2.1 + 1000 * (j + 1) + 125) (slots2 := u.2.2.1 + 9000 * (j + 1) + 181434) (by omega) (by omega) ?_
  have hbd1 := hC1.bd
  refine lv_istore hx hb dL_law_1373 hl (by decide) rfl (fun ls (hl : lv_has ls _ ([(5, .int r1), (4, .int (nI (6 * j))), (3, .ref o), (2, .ref h2), (1, .ref h1), (0, .ref b)])) => ?_)
  refine lv_aload_n hx hb dL_law_1375 rfl (lv_at hl 3 rfl) ?_
  refine lw_arg hx hb hX hbl hbA hS (lv_at hl 5 rfl) (lv_at hl 1 rfl) 1 (by omega) hLs (by decide) dL_law_1376 dL_law_1377 dL_law_1379 dL_law_1380 dL_law_1381 ?_
  refine lw_arg hx hb hX hbl hbA hS (lv_at hl 5 rfl) (lv_at hl 1 rfl) 2 (by omega) hLs (by decide) dL_law_1382 dL_law_1383 dL_law_1385 dL_law_1386 dL_law_1387 ?_
  refine lw_arg hx hb hX hbl hbA hS (lv_at hl 5 rfl) (lv_at hl 1 rfl) 3 (by omega) hLs (by decide) dL_law_1388 dL_law_1389 dL_law_1391 dL_law_1392 dL_law_1393 ?_
  refine lawR_i (y := yX12_cheapest) (ws := wsRX12_cheapest) (mc := 0) (ms := 0) (As := [.int (xs (6 * j + 1)), .int (xs (6 * j + 2)), .int (xs (6 * j + 3))]) (rest := []) ⟨hx, hb, hml, hown, hts⟩ (R_cheapest l dC dI kv h2 T th v (xs (6 * j + 3)) (xs (6 * j + 1)) (xs (6 * j + 2)) hR H1.size) (cwV 3 hts gl_R_cheapest rfl rfl rfl (by decide +kernel) ⟨Nat.le_of_ble_eq_true rfl, Nat.le_of_ble_eq_true rfl⟩) hR.recv hKV hT9 hA hP hD hS rfl hl.1 (lv_room (Nat.le_of_ble_eq_true rfl)) dL_law_1394 ⟨show u.2.1 + 1000 * (j + 1) + 125 + 0 ≤ 327717 by omega, show u.2.2.1 + 9000 * (j + 1) + 181434 + 0 ≤ 8118330 by omega⟩ (fun r2 u2 H2 locs2 hp2 hP hD hS => ?_)
  obtain ⟨hR2, hT2⟩ := hp2
  refine lv_istore hx hb dL_law_1397 hl (by decide) rfl (fun ls (hl : lv_has ls _ ([(6, .int r2), (5, .int r1), (4, .int (nI (6 * j))), (3, .ref o), (2, .ref h2), (1, .ref h1), (0, .ref b)])) => ?_)
  refine lv_goto (tgt := 1507) hx hb dL_law_1399 (by decide) ?_
  refine W.known (fun z1 z2 => ?_)
  have hTT : (((((u2.1.1 : Nat) : Int), u2.1.2) : LT) = u.1 ∧ u2.1.1 ≤ 20 * (j + 1)) := by
    rcases lw3c hL1 hT2 with ⟨⟨a1, _⟩, a2, _⟩ | ⟨⟨a1, _⟩, a2, _⟩ | ⟨_, ⟨a1, _⟩, a2, _⟩
    · exact ⟨by rw [a1, a2] <;> rfl, by rw [a2]; first | omega | (dsimp only; omega)⟩
    · exact ⟨by rw [a1, a2] <;> rfl, by rw [a2]; first | omega | (dsimp only; omega)⟩
    · exact ⟨by rw [a1, a2] <;> rfl, by rw [a2]; first | omega | (dsimp only; omega)⟩
  exact hgo H2 locs2 ls _ _ ⟨u2.1, u2.2.1, u.2.1, u.2.2.1, u.2.2.2.1, u2.2.2, u.2.2.2.2, by rw [hTT.1]; exact hC1, hR2, hTT.2, hP, hD, hS, by omega, by omega⟩ (lv_sub hl [2, 3, 4, 5, 6] rfl)
set_option maxHeartbeats 4000000 in
set_option maxRecDepth 100000 in
/-- the law's case 36: path -/
theorem lc_36 {p : Program} {e : Env} {s : State} {m : MethodId} {below : List Frame} {meth : Method} {c : Code} (l : Launch) (hst : l.stackTraces = false) {b Ls : Nat} {xs : Nat → Int32} (hLs : Ls ≤ 384) (C0 : lw_At p s m meth c b Ls xs) {A : Nat → Prop} (dC : Nat → ClassId) (dI : Nat → Nat → Nat) (kX : Nat → ClassId) (kT : Nat → ClassId) (kM : Nat → ClassId) (kV : Nat → ClassId) (kC : Nat → ClassId) (kN : Nat → ClassId) (kJ : Nat → ClassId) (kL : Nat → ClassId) (kF : Nat → ClassId) (kO : Nat → ClassId) (kQ : Nat → ClassId) (kG : Nat → ClassId) (kw : ClassId) (kv : Nat → ClassId) (kR : ClassId) (E0 : LwC dC dI kX kT kM kV kC kN kJ kL kF kO kQ kG kw kv kR A s) {h1 h2 o j : Nat} (hj : 6 * j + 6 ≤ Ls) {H : Heap} {locs : List Loc} {ls : Array Slot} {cells slots : Nat} (hI : LwI dC dI kX kT kM kV kC kN kJ kL kF kO kQ kG kw kv kR A s h1 h2 o j H locs) (hl : lv_has ls 7 [(4, .int (nI (6 * j))), (3, .ref o), (2, .ref h2), (1, .ref h1), (0, .ref b)])
    (hgo : ∀ (H : Heap) (locs : List Loc) (ls : Array Slot) (cells slots : Nat), LwI dC dI kX kT kM kV kC kN kJ kL kF kO kQ kG kw kv kR A s h1 h2 o (j + 1) H locs → lv_has ls 7 [(4, .int (nI (6 * j))), (3, .ref o), (2, .ref h2), (1, .ref h1), (0, .ref b)] → W p l e room_1 s m #[Value.ref b] below meth c H locs cells slots (lw_Z below #[Value.ref b] s) (F0 m 1507 ls [])) : W p l e room_1 s m #[Value.ref b] below meth c H locs cells slots (lw_Z below #[Value.ref b] s) (F0 m 1402 ls []) := by
  obtain ⟨hx, hb, hr, hml, hown, hts, hX, hbl, hlocks, hgv⟩ := id C0
  have hb : c.code = cL_law := hb
  have hown : s.vm.findClass RL = some m.cls := hown
  obtain ⟨hA, hA2, hE, hT9, hNc, hKC, hKV, hKR⟩ := E0
  have hbA : ¬ A b := fun h => absurd (hA2 b h) (Nat.not_le.mpr hbl)
  obtain ⟨T, th, Fc, Fs, w, v, g, hC, hR, hT, hP, hD, hS, hz, hn⟩ := hI
  have hbd := hC.bd
  refine W.tight (cells2 := Fc + 1000 * j + 125) (slots2 := Fs + 9000 * j + 181434) hz hn ?_
  refine lv_aload_n hx hb dL_law_1402 rfl (lv_at hl 3 rfl) ?_
  refine lw_arg hx hb hX hbl hbA hS (lv_at hl 4 rfl) (lv_at hl 0 rfl) 1 (by omega) hLs (by decide) dL_law_1403 dL_law_1404 dL_law_1406 dL_law_1407 dL_law_1408 ?_
  refine lw_arg hx hb hX hbl hbA hS (lv_at hl 4 rfl) (lv_at hl 0 rfl) 2 (by omega) hLs (by decide) dL_law_1409 dL_law_1410 dL_law_1412 dL_law_1413 dL_law_1414 ?_
  refine lw_arg hx hb hX hbl hbA hS (lv_at hl 4 rfl) (lv_at hl 0 rfl) 3 (by omega) hLs (by decide) dL_law_1415 dL_law_1416 dL_law_1418 dL_law_1419 dL_law_1420 ?_
  refine lv_aload_n hx hb dL_law_1421 rfl (lv_at hl 1 rfl) ?_
  refine lawH_i (y := yL_path) (ws := wsH_path) (mc := 12) (ms := 1478) (As := [.ref h1, .int (xs (6 * j + 1)), .int (xs (6 * j + 2)), .int (xs (6 * j + 3)), .ref o]) (rest := []) ⟨hx, hb, hml, hown, hts⟩ (H_path l hst dC dI kX kT kM kV kC kN kJ kL kF kO kQ kG kw h1 (((T.1 : Nat) : Int), T.2) Fc Fs w (xs (6 * j + 1)) (xs (6 * j + 2)) (xs (6 * j + 3)) o kR g hC hR.val H.size) (vx_cwSW 5 hts gl_H_path rfl rfl rfl (by decide +kernel) ⟨Nat.le_of_ble_eq_true rfl, Nat.le_of_ble_eq_true rfl⟩) (hKR.app hKC) hE hNc hA hP hD hS rfl hl.1 (lv_room (Nat.le_of_ble_eq_true rfl)) dL_law_1422 ⟨show Fc + 1000 * j + 125 + 12 ≤ 327717 by omega, show Fs + 9000 * j + 181434 + 1478 ≤ 8118330 by omega⟩ (fun r1 u H1 locs1 hp hP hD hS hz1 hs1 => ?_)
  obtain ⟨hC1, hL1⟩ := hp
  refine W.tight (cells2 := u.2.1 + 1000 * (j + 1) + 125) (slots2 := u.2.2.1 + 9000 * (j + 1) + 181434) (by omega) (by omega) ?_
  have hbd1 := hC1.bd
  refine lv_istore hx hb dL_law_1425 hl (by decide) rfl (fun ls (hl : lv_has ls _ ([(5, .int r1), (4, .int (nI (6 * j))), (3, .ref o), (2, .ref h2), (1, .ref h1), (0, .ref b)])) => ?_)
  refine lv_aload_n hx hb dL_law_1427 rfl (lv_at hl 3 rfl) ?_
  refine lw_arg hx hb hX hbl hbA hS (lv_at hl 5 rfl) (lv_at hl 1 rfl) 1 (by omega) hLs (by decide) dL_law_1428 dL_law_1429 dL_law_1431 dL_law_1432 dL_law_1433 ?_
  refine lw_arg hx hb hX hbl hbA hS (lv_at hl 5 rfl) (lv_at hl 1 rfl) 2 (by omega) hLs (by decide) dL_law_1434 dL_law_1435 dL_law_1437 dL_law_1438 dL_law_1439 ?_
  refine lw_arg hx hb hX hbl hbA hS (lv_at hl 5 rfl) (lv_at hl 1 rfl) 3 (by omega) hLs (by decide) dL_law_1440 dL_law_1441 dL_law_1443 dL_law_1444 dL_law_1445 ?_
  refine lawR_i (y := yX12_path) (ws := wsRX12_path) (mc := 0) (ms := 0) (As := [.int (xs (6 * j + 1)), .int (xs (6 * j + 2)), .int (xs (6 * j + 3))]) (rest := []) ⟨hx, hb, hml, hown, hts⟩ (R_path l dC dI kv h2 T th v (xs (6 * j + 1)) (xs (6 * j + 2)) (xs (6 * j + 3)) hR H1.size) (cwV 3 hts gl_R_path rfl rfl rfl (by decide +kernel) ⟨Nat.le_of_ble_eq_true rfl, Nat.le_of_ble_eq_true rfl⟩) hR.recv hKV hT9 hA hP hD hS rfl hl.1 (lv_room (Nat.le_of_ble_eq_true rfl)) dL_law_1446 ⟨show u.2.1 + 1000 * (j + 1) + 125 + 0 ≤ 327717 by omega, show u.2.2.1 + 9000 * (j + 1) + 181434 + 0 ≤ 8118330 by omega⟩ (fun r2 u2 H2 locs2 hp2 hP hD hS => ?_)
  obtain ⟨hR2, hT2⟩ := hp2
  refine lv_istore hx hb dL_law_1449 hl (by decide) rfl (fun ls (hl : lv_has ls _ ([(6, .int r2), (5, .int r1), (4, .int (nI (6 * j))), (3, .ref o), (2, .ref h2), (1, .ref h1), (0, .ref b)])) => ?_)
  refine lv_goto (tgt := 1507) hx hb dL_law_1451 (by decide) ?_
  refine W.known (fun z1 z2 => ?_)
  have hTT : (((((u2.1.1 : Nat) : Int), u2.1.2) : LT) = u.1 ∧ u2.1.1 ≤ 20 * (j + 1)) := by
    rcases lw3c hL1 hT2 with ⟨⟨a1, _⟩, a2, _⟩ | ⟨⟨a1, _⟩, a2, _⟩ | ⟨_, ⟨a1, _⟩, a2, _⟩
    · exact ⟨by rw [a1, a2] <;> rfl, by rw [a2]; first | omega | (dsimp only; omega)⟩
    · exact ⟨by rw [a1, a2] <;> rfl, by rw [a2]; first | omega | (dsimp only; omega)⟩
    · exact ⟨by rw [a1, a2] <;> rfl, by rw [a2]; first | omega | (dsimp only; omega)⟩
  exact hgo H2 locs2 ls _ _ ⟨u2.1, u2.2.1, u.2.1, u.2.2.1, u.2.2.2.1, u2.2.2, u.2.2.2.2, by rw [hTT.1]; exact hC1, hR2, hTT.2, hP, hD, hS, by omega, by omega⟩ (lv_sub hl [2, 3, 4, 5, 6] rfl)
set_option maxHeartbeats 4000000 in
set_option maxRecDepth 100000 in
/-- the law's case 37: tree -/
theorem lc_37 {p : Program} {e : Env} {s : State} {m : MethodId} {below : List Frame} {meth : Method} {c : Code} (l : Launch) (hst : l.stackTraces = false) {b Ls : Nat} {xs : Nat → Int32} (hLs : Ls ≤ 384) (C0 : lw_At p s m meth c b Ls xs) {A : Nat → Prop} (dC : Nat → ClassId) (dI : Nat → Nat → Nat) (kX : Nat → ClassId) (kT : Nat → ClassId) (kM : Nat → ClassId) (kV : Nat → ClassId) (kC : Nat → ClassId) (kN : Nat → ClassId) (kJ : Nat → ClassId) (kL : Nat → ClassId) (kF : Nat → ClassId) (kO : Nat → ClassId) (kQ : Nat → ClassId) (kG : Nat → ClassId) (kw : ClassId) (kv : Nat → ClassId) (kR : ClassId) (E0 : LwC dC dI kX kT kM kV kC kN kJ kL kF kO kQ kG kw kv kR A s) {h1 h2 o j : Nat} (hj : 6 * j + 6 ≤ Ls) {H : Heap} {locs : List Loc} {ls : Array Slot} {cells slots : Nat} (hI : LwI dC dI kX kT kM kV kC kN kJ kL kF kO kQ kG kw kv kR A s h1 h2 o j H locs) (hl : lv_has ls 7 [(4, .int (nI (6 * j))), (3, .ref o), (2, .ref h2), (1, .ref h1), (0, .ref b)])
    (hgo : ∀ (H : Heap) (locs : List Loc) (ls : Array Slot) (cells slots : Nat), LwI dC dI kX kT kM kV kC kN kJ kL kF kO kQ kG kw kv kR A s h1 h2 o (j + 1) H locs → lv_has ls 7 [(4, .int (nI (6 * j))), (3, .ref o), (2, .ref h2), (1, .ref h1), (0, .ref b)] → W p l e room_1 s m #[Value.ref b] below meth c H locs cells slots (lw_Z below #[Value.ref b] s) (F0 m 1507 ls [])) : W p l e room_1 s m #[Value.ref b] below meth c H locs cells slots (lw_Z below #[Value.ref b] s) (F0 m 1454 ls []) := by
  obtain ⟨hx, hb, hr, hml, hown, hts, hX, hbl, hlocks, hgv⟩ := id C0
  have hb : c.code = cL_law := hb
  have hown : s.vm.findClass RL = some m.cls := hown
  obtain ⟨hA, hA2, hE, hT9, hNc, hKC, hKV, hKR⟩ := E0
  have hbA : ¬ A b := fun h => absurd (hA2 b h) (Nat.not_le.mpr hbl)
  obtain ⟨T, th, Fc, Fs, w, v, g, hC, hR, hT, hP, hD, hS, hz, hn⟩ := hI
  have hbd := hC.bd
  refine W.tight (cells2 := Fc + 1000 * j + 125) (slots2 := Fs + 9000 * j + 181434) hz hn ?_
  refine lv_aload_n hx hb dL_law_1454 rfl (lv_at hl 3 rfl) ?_
  refine lawC_l (y := yX11_tree) (ws := wsU_tree) (mc := 12) (ms := 1478) (As := []) (rest := []) ⟨hx, hb, hml, hown, hts⟩ (U_tree l hst dC dI kX kT kM kV kC kN kJ kL kF kO kQ kG kw h1 (((T.1 : Nat) : Int), T.2) Fc Fs w hC hR.val H.size) (cwV 0 hts gl_C_tree rfl rfl rfl (by decide +kernel) ⟨Nat.le_of_ble_eq_true rfl, Nat.le_of_ble_eq_true rfl⟩) hC.recv hKC hE hA hP hD hS rfl hl.1 (lv_room (Nat.le_of_ble_eq_true rfl)) dL_law_1455 ⟨show Fc + 1000 * j + 125 + 12 ≤ 327717 by omega, show Fs + 9000 * j + 181434 + 1478 ≤ 8118330 by omega⟩ (fun r1 u H1 locs1 hp hP hD hS hz1 hs1 => ?_)
  obtain ⟨hC1, hL1⟩ := hp
  refine W.tight (cells2 := u.2.1 + 1000 * (j + 1) + 125) (slots2 := u.2.2.1 + 9000 * (j + 1) + 181434) (by omega) (by omega) ?_
  have hbd1 := hC1.bd
  refine lv_pop2_2 hx hb dL_law_1458 rfl ?_
  refine lv_aload_n hx hb dL_law_1459 rfl (lv_at hl 2 rfl) ?_
  refine lawR_l (y := yX12_tree) (ws := wsRX12_tree) (mc := 0) (ms := 0) (As := []) (rest := []) ⟨hx, hb, hml, hown, hts⟩ (R_tree l dC dI kv h2 T th v hR H1.size) (cwV 0 hts gl_R_tree rfl rfl rfl (by decide +kernel) ⟨Nat.le_of_ble_eq_true rfl, Nat.le_of_ble_eq_true rfl⟩) hR.recv hKV hT9 hA hP hD hS rfl hl.1 (lv_room (Nat.le_of_ble_eq_true rfl)) dL_law_1460 ⟨show u.2.1 + 1000 * (j + 1) + 125 + 0 ≤ 327717 by omega, show u.2.2.1 + 9000 * (j + 1) + 181434 + 0 ≤ 8118330 by omega⟩ (fun r2 u2 H2 locs2 hp2 hP hD hS => ?_)
  obtain ⟨hR2, hT2⟩ := hp2
  refine lv_pop2_2 hx hb dL_law_1463 rfl ?_
  refine lv_goto (tgt := 1507) hx hb dL_law_1464 (by decide) ?_
  refine W.known (fun z1 z2 => ?_)
  have hL0 := hL1.1
  have hT0 := hT2.1
  have hTT : (((((u2.1.1 : Nat) : Int), u2.1.2) : LT) = u.1 ∧ u2.1.1 ≤ 20 * (j + 1)) := ⟨by rw [hL0, hT0] <;> rfl, by rw [hT0]; first | omega | (dsimp only; omega)⟩
  exact hgo H2 locs2 ls _ _ ⟨u2.1, u2.2.1, u.2.1, u.2.2.1, u.2.2.2, u2.2.2, g, by rw [hTT.1]; exact hC1, hR2, hTT.2, hP, hD, hS, by omega, by omega⟩ (lv_sub hl [0, 1, 2, 3, 4] rfl)
set_option maxHeartbeats 4000000 in
set_option maxRecDepth 100000 in
/-- the law's case 38: tour -/
theorem lc_38 {p : Program} {e : Env} {s : State} {m : MethodId} {below : List Frame} {meth : Method} {c : Code} (l : Launch) (hst : l.stackTraces = false) {b Ls : Nat} {xs : Nat → Int32} (hLs : Ls ≤ 384) (C0 : lw_At p s m meth c b Ls xs) {A : Nat → Prop} (dC : Nat → ClassId) (dI : Nat → Nat → Nat) (kX : Nat → ClassId) (kT : Nat → ClassId) (kM : Nat → ClassId) (kV : Nat → ClassId) (kC : Nat → ClassId) (kN : Nat → ClassId) (kJ : Nat → ClassId) (kL : Nat → ClassId) (kF : Nat → ClassId) (kO : Nat → ClassId) (kQ : Nat → ClassId) (kG : Nat → ClassId) (kw : ClassId) (kv : Nat → ClassId) (kR : ClassId) (E0 : LwC dC dI kX kT kM kV kC kN kJ kL kF kO kQ kG kw kv kR A s) {h1 h2 o j : Nat} (hj : 6 * j + 6 ≤ Ls) {H : Heap} {locs : List Loc} {ls : Array Slot} {cells slots : Nat} (hI : LwI dC dI kX kT kM kV kC kN kJ kL kF kO kQ kG kw kv kR A s h1 h2 o j H locs) (hl : lv_has ls 7 [(4, .int (nI (6 * j))), (3, .ref o), (2, .ref h2), (1, .ref h1), (0, .ref b)])
    (hgo : ∀ (H : Heap) (locs : List Loc) (ls : Array Slot) (cells slots : Nat), LwI dC dI kX kT kM kV kC kN kJ kL kF kO kQ kG kw kv kR A s h1 h2 o (j + 1) H locs → lv_has ls 7 [(4, .int (nI (6 * j))), (3, .ref o), (2, .ref h2), (1, .ref h1), (0, .ref b)] → W p l e room_1 s m #[Value.ref b] below meth c H locs cells slots (lw_Z below #[Value.ref b] s) (F0 m 1507 ls [])) : W p l e room_1 s m #[Value.ref b] below meth c H locs cells slots (lw_Z below #[Value.ref b] s) (F0 m 1467 ls []) := by
  obtain ⟨hx, hb, hr, hml, hown, hts, hX, hbl, hlocks, hgv⟩ := id C0
  have hb : c.code = cL_law := hb
  have hown : s.vm.findClass RL = some m.cls := hown
  obtain ⟨hA, hA2, hE, hT9, hNc, hKC, hKV, hKR⟩ := E0
  have hbA : ¬ A b := fun h => absurd (hA2 b h) (Nat.not_le.mpr hbl)
  obtain ⟨T, th, Fc, Fs, w, v, g, hC, hR, hT, hP, hD, hS, hz, hn⟩ := hI
  have hbd := hC.bd
  refine W.tight (cells2 := Fc + 1000 * j + 125) (slots2 := Fs + 9000 * j + 181434) hz hn ?_
  refine lv_aload_n hx hb dL_law_1467 rfl (lv_at hl 3 rfl) ?_
  refine lw_arg hx hb hX hbl hbA hS (lv_at hl 4 rfl) (lv_at hl 0 rfl) 1 (by omega) hLs (by decide) dL_law_1468 dL_law_1469 dL_law_1471 dL_law_1472 dL_law_1473 ?_
  refine lw_arg hx hb hX hbl hbA hS (lv_at hl 4 rfl) (lv_at hl 0 rfl) 2 (by omega) hLs (by decide) dL_law_1474 dL_law_1475 dL_law_1477 dL_law_1478 dL_law_1479 ?_
  refine lv_aload_n hx hb dL_law_1480 rfl (lv_at hl 1 rfl) ?_
  refine lawH_i (y := yL_tour) (ws := wsH_tour) (mc := 13) (ms := 1484) (As := [.ref h1, .int (xs (6 * j + 1)), .int (xs (6 * j + 2)), .ref o]) (rest := []) ⟨hx, hb, hml, hown, hts⟩ (H_tour l hst dC dI kX kT kM kV kC kN kJ kL kF kO kQ kG kw h1 (((T.1 : Nat) : Int), T.2) Fc Fs w (xs (6 * j + 1)) (xs (6 * j + 2)) o kR g hC hR.val H.size) (vx_cwSW 4 hts gl_H_tour rfl rfl rfl (by decide +kernel) ⟨Nat.le_of_ble_eq_true rfl, Nat.le_of_ble_eq_true rfl⟩) (hKR.app hKC) hE hNc hA hP hD hS rfl hl.1 (lv_room (Nat.le_of_ble_eq_true rfl)) dL_law_1481 ⟨show Fc + 1000 * j + 125 + 13 ≤ 327717 by omega, show Fs + 9000 * j + 181434 + 1484 ≤ 8118330 by omega⟩ (fun r1 u H1 locs1 hp hP hD hS hz1 hs1 => ?_)
  obtain ⟨hC1, hL1⟩ := hp
  refine W.tight (cells2 := u.2.1 + 1000 * (j + 1) + 125) (slots2 := u.2.2.1 + 9000 * (j + 1) + 181434) (by omega) (by omega) ?_
  have hbd1 := hC1.bd
  refine lv_istore hx hb dL_law_1484 hl (by decide) rfl (fun ls (hl : lv_has ls _ ([(5, .int r1), (4, .int (nI (6 * j))), (3, .ref o), (2, .ref h2), (1, .ref h1), (0, .ref b)])) => ?_)
  refine lv_aload_n hx hb dL_law_1486 rfl (lv_at hl 3 rfl) ?_
  refine lw_arg hx hb hX hbl hbA hS (lv_at hl 5 rfl) (lv_at hl 1 rfl) 1 (by omega) hLs (by decide) dL_law_1487 dL_law_1488 dL_law_1490 dL_law_1491 dL_law_1492 ?_
  refine lw_arg hx hb hX hbl hbA hS (lv_at hl 5 rfl) (lv_at hl 1 rfl) 2 (by omega) hLs (by decide) dL_law_1493 dL_law_1494 dL_law_1496 dL_law_1497 dL_law_1498 ?_
  refine lawR_i (y := yX12_tour) (ws := wsRX12_tour) (mc := 0) (ms := 0) (As := [.int (xs (6 * j + 1)), .int (xs (6 * j + 2))]) (rest := []) ⟨hx, hb, hml, hown, hts⟩ (R_tour l dC dI kv h2 T th v (xs (6 * j + 1)) (xs (6 * j + 2)) hR H1.size) (cwV 2 hts gl_R_tour rfl rfl rfl (by decide +kernel) ⟨Nat.le_of_ble_eq_true rfl, Nat.le_of_ble_eq_true rfl⟩) hR.recv hKV hT9 hA hP hD hS rfl hl.1 (lv_room (Nat.le_of_ble_eq_true rfl)) dL_law_1499 ⟨show u.2.1 + 1000 * (j + 1) + 125 + 0 ≤ 327717 by omega, show u.2.2.1 + 9000 * (j + 1) + 181434 + 0 ≤ 8118330 by omega⟩ (fun r2 u2 H2 locs2 hp2 hP hD hS => ?_)
  obtain ⟨hR2, hT2⟩ := hp2
  refine lv_istore hx hb dL_law_1502 hl (by decide) rfl (fun ls (hl : lv_has ls _ ([(6, .int r2), (5, .int r1), (4, .int (nI (6 * j))), (3, .ref o), (2, .ref h2), (1, .ref h1), (0, .ref b)])) => ?_)
  refine lv_goto (tgt := 1507) hx hb dL_law_1504 (by decide) ?_
  refine W.known (fun z1 z2 => ?_)
  have hTT : (((((u2.1.1 : Nat) : Int), u2.1.2) : LT) = u.1 ∧ u2.1.1 ≤ 20 * (j + 1)) := by
    rcases lw3c hL1 hT2 with ⟨⟨a1, _⟩, a2, _⟩ | ⟨⟨a1, _⟩, a2, _⟩ | ⟨_, ⟨a1, _⟩, a2, _⟩
    · exact ⟨by rw [a1, a2] <;> rfl, by rw [a2]; first | omega | (dsimp only; omega)⟩
    · exact ⟨by rw [a1, a2] <;> rfl, by rw [a2]; first | omega | (dsimp only; omega)⟩
    · exact ⟨by rw [a1, a2] <;> rfl, by rw [a2]; first | omega | (dsimp only; omega)⟩
  exact hgo H2 locs2 ls _ _ ⟨u2.1, u2.2.1, u.2.1, u.2.2.1, u.2.2.2.1, u2.2.2, u.2.2.2.2, by rw [hTT.1]; exact hC1, hR2, hTT.2, hP, hD, hS, by omega, by omega⟩ (lv_sub hl [2, 3, 4, 5, 6] rfl)

set_option maxHeartbeats 4000000 in
set_option maxRecDepth 100000 in
/-- the law's case 0: feed -/
theorem lc_0 {p : Program} {e : Env} {s : State} {m : MethodId} {below : List Frame} {meth : Method} {c : Code} (l : Launch) (hst : l.stackTraces = false) {b Ls : Nat} {xs : Nat → Int32} (hLs : Ls ≤ 384) (C0 : lw_At p s m meth c b Ls xs) {A : Nat → Prop} (dC : Nat → ClassId) (dI : Nat → Nat → Nat) (kX : Nat → ClassId) (kT : Nat → ClassId) (kM : Nat → ClassId) (kV : Nat → ClassId) (kC : Nat → ClassId) (kN : Nat → ClassId) (kJ : Nat → ClassId) (kL : Nat → ClassId) (kF : Nat → ClassId) (kO : Nat → ClassId) (kQ : Nat → ClassId) (kG : Nat → ClassId) (kw : ClassId) (kv : Nat → ClassId) (kR : ClassId) (E0 : LwC dC dI kX kT kM kV kC kN kJ kL kF kO kQ kG kw kv kR A s) {h1 h2 o j : Nat} (hj : 6 * j + 6 ≤ Ls) {H : Heap} {locs : List Loc} {ls : Array Slot} {cells slots : Nat} (hI : LwI dC dI kX kT kM kV kC kN kJ kL kF kO kQ kG kw kv kR A s h1 h2 o j H locs) (hl : lv_has ls 7 [(4, .int (nI (6 * j))), (3, .ref o), (2, .ref h2), (1, .ref h1), (0, .ref b)])
    (hgo : ∀ (H : Heap) (locs : List Loc) (ls : Array Slot) (cells slots : Nat), LwI dC dI kX kT kM kV kC kN kJ kL kF kO kQ kG kw kv kR A s h1 h2 o (j + 1) H locs → lv_has ls 7 [(4, .int (nI (6 * j))), (3, .ref o), (2, .ref h2), (1, .ref h1), (0, .ref b)] → W p l e room_1 s m #[Value.ref b] below meth c H locs cells slots (lw_Z below #[Value.ref b] s) (F0 m 1507 ls [])) : W p l e room_1 s m #[Value.ref b] below meth c H locs cells slots (lw_Z below #[Value.ref b] s) (F0 m 212 ls []) := by
  obtain ⟨hx, hb, hr, hml, hown, hts, hX, hbl, hlocks, hgv⟩ := id C0
  have hb : c.code = cL_law := hb
  have hown : s.vm.findClass RL = some m.cls := hown
  obtain ⟨hA, hA2, hE, hT9, hNc, hKC, hKV, hKR⟩ := E0
  have hbA : ¬ A b := fun h => absurd (hA2 b h) (Nat.not_le.mpr hbl)
  obtain ⟨T, th, Fc, Fs, w, v, g, hC, hR, hT, hP, hD, hS, hz, hn⟩ := hI
  have hbd := hC.bd
  refine W.tight (cells2 := Fc + 1000 * j + 125) (slots2 := Fs + 9000 * j + 181434) hz hn ?_
  refine lv_aload_n hx hb dL_law_212 rfl (lv_at hl 3 rfl) ?_
  refine lw_arg hx hb hX hbl hbA hS (lv_at hl 4 rfl) (lv_at hl 0 rfl) 1 (by omega) hLs (by decide) dL_law_213 dL_law_214 dL_law_216 dL_law_217 dL_law_218 ?_
  refine lw_arg hx hb hX hbl hbA hS (lv_at hl 4 rfl) (lv_at hl 0 rfl) 2 (by omega) hLs (by decide) dL_law_219 dL_law_220 dL_law_222 dL_law_223 dL_law_224 ?_
  refine lw_arg hx hb hX hbl hbA hS (lv_at hl 4 rfl) (lv_at hl 0 rfl) 3 (by omega) hLs (by decide) dL_law_225 dL_law_226 dL_law_228 dL_law_229 dL_law_230 ?_
  refine lw_arg hx hb hX hbl hbA hS (lv_at hl 4 rfl) (lv_at hl 0 rfl) 4 (by omega) hLs (by decide) dL_law_231 dL_law_232 dL_law_234 dL_law_235 dL_law_236 ?_
  refine lw_arg hx hb hX hbl hbA hS (lv_at hl 4 rfl) (lv_at hl 0 rfl) 5 (by omega) hLs (by decide) dL_law_237 dL_law_238 dL_law_240 dL_law_241 dL_law_242 ?_
  refine lawC_v (y := yX11_feed) (ws := wsU_feed) (mc := 0) (ms := 0) (As := [.int (xs (6 * j + 1)), .int (xs (6 * j + 2)), .int (xs (6 * j + 3)), .int (xs (6 * j + 4)), .int (xs (6 * j + 5))]) (rest := []) ⟨hx, hb, hml, hown, hts⟩ (U_feed l hst dC dI kX kT kM kV kC kN kJ kL kF kO kQ kG kw h1 (((T.1 : Nat) : Int), T.2) Fc Fs w (xs (6 * j + 1)) (xs (6 * j + 2)) (xs (6 * j + 3)) (xs (6 * j + 4)) (xs (6 * j + 5)) hC H.size) (cwV 5 hts gl_C_feed rfl rfl rfl (by decide +kernel) ⟨Nat.le_of_ble_eq_true rfl, Nat.le_of_ble_eq_true rfl⟩) hC.recv hKC hE hA hP hD hS rfl hl.1 (lv_room (Nat.le_of_ble_eq_true rfl)) dL_law_243 ⟨show Fc + 1000 * j + 125 + 0 ≤ 327717 by omega, show Fs + 9000 * j + 181434 + 0 ≤ 8118330 by omega⟩ (fun u H1 locs1 hp hP hD hS hz1 hs1 => ?_)
  obtain ⟨hC1, hL1⟩ := hp
  refine W.tight (cells2 := u.2.1 + 1000 * (j + 1) + 125) (slots2 := u.2.2.1 + 9000 * (j + 1) + 181434) (by omega) (by omega) ?_
  have hbd1 := hC1.bd
  refine lv_aload_n hx hb dL_law_246 rfl (lv_at hl 2 rfl) ?_
  refine lw_arg hx hb hX hbl hbA hS (lv_at hl 4 rfl) (lv_at hl 0 rfl) 1 (by omega) hLs (by decide) dL_law_247 dL_law_248 dL_law_250 dL_law_251 dL_law_252 ?_
  refine lw_arg hx hb hX hbl hbA hS (lv_at hl 4 rfl) (lv_at hl 0 rfl) 2 (by omega) hLs (by decide) dL_law_253 dL_law_254 dL_law_256 dL_law_257 dL_law_258 ?_
  refine lw_arg hx hb hX hbl hbA hS (lv_at hl 4 rfl) (lv_at hl 0 rfl) 3 (by omega) hLs (by decide) dL_law_259 dL_law_260 dL_law_262 dL_law_263 dL_law_264 ?_
  refine lw_arg hx hb hX hbl hbA hS (lv_at hl 4 rfl) (lv_at hl 0 rfl) 4 (by omega) hLs (by decide) dL_law_265 dL_law_266 dL_law_268 dL_law_269 dL_law_270 ?_
  refine lw_arg hx hb hX hbl hbA hS (lv_at hl 4 rfl) (lv_at hl 0 rfl) 5 (by omega) hLs (by decide) dL_law_271 dL_law_272 dL_law_274 dL_law_275 dL_law_276 ?_
  refine lawR_v (y := yX12_feed) (ws := wsRX12_feed) (mc := 0) (ms := 0) (As := [.int (xs (6 * j + 1)), .int (xs (6 * j + 2)), .int (xs (6 * j + 3)), .int (xs (6 * j + 4)), .int (xs (6 * j + 5))]) (rest := []) ⟨hx, hb, hml, hown, hts⟩ (R_feed l dC dI kv h2 T th v (xs (6 * j + 1)) (xs (6 * j + 2)) (xs (6 * j + 3)) (xs (6 * j + 4)) (xs (6 * j + 5)) hR H1.size) (cwV 5 hts gl_R_feed rfl rfl rfl (by decide +kernel) ⟨Nat.le_of_ble_eq_true rfl, Nat.le_of_ble_eq_true rfl⟩) hR.recv hKV hT9 hA hP hD hS rfl hl.1 (lv_room (Nat.le_of_ble_eq_true rfl)) dL_law_277 ⟨show u.2.1 + 1000 * (j + 1) + 125 + 0 ≤ 327717 by omega, show u.2.2.1 + 9000 * (j + 1) + 181434 + 0 ≤ 8118330 by omega⟩ (fun u2 H2 locs2 hp2 hP hD hS => ?_)
  obtain ⟨hR2, hT2⟩ := hp2
  refine lv_goto (tgt := 1507) hx hb dL_law_280 (by decide) ?_
  refine W.known (fun z1 z2 => ?_)
  have hTT : (((((u2.1.1 : Nat) : Int), u2.1.2) : LT) = u.1 ∧ u2.1.1 ≤ 20 * (j + 1)) := ⟨by rw [hL1, hT2] <;> rfl, by rw [hT2]; first | omega | (dsimp only; omega)⟩
  exact hgo H2 locs2 ls _ _ ⟨u2.1, u2.2.1, u.2.1, u.2.2.1, u.2.2.2, u2.2.2, g, by rw [hTT.1]; exact hC1, hR2, hTT.2, hP, hD, hS, by omega, by omega⟩ (lv_sub hl [0, 1, 2, 3, 4] rfl)
set_option maxHeartbeats 4000000 in
set_option maxRecDepth 100000 in
/-- the law's case 1: end -/
theorem lc_1 {p : Program} {e : Env} {s : State} {m : MethodId} {below : List Frame} {meth : Method} {c : Code} (l : Launch) (hst : l.stackTraces = false) {b Ls : Nat} {xs : Nat → Int32} (hLs : Ls ≤ 384) (C0 : lw_At p s m meth c b Ls xs) {A : Nat → Prop} (dC : Nat → ClassId) (dI : Nat → Nat → Nat) (kX : Nat → ClassId) (kT : Nat → ClassId) (kM : Nat → ClassId) (kV : Nat → ClassId) (kC : Nat → ClassId) (kN : Nat → ClassId) (kJ : Nat → ClassId) (kL : Nat → ClassId) (kF : Nat → ClassId) (kO : Nat → ClassId) (kQ : Nat → ClassId) (kG : Nat → ClassId) (kw : ClassId) (kv : Nat → ClassId) (kR : ClassId) (E0 : LwC dC dI kX kT kM kV kC kN kJ kL kF kO kQ kG kw kv kR A s) {h1 h2 o j : Nat} (hj : 6 * j + 6 ≤ Ls) {H : Heap} {locs : List Loc} {ls : Array Slot} {cells slots : Nat} (hI : LwI dC dI kX kT kM kV kC kN kJ kL kF kO kQ kG kw kv kR A s h1 h2 o j H locs) (hl : lv_has ls 7 [(4, .int (nI (6 * j))), (3, .ref o), (2, .ref h2), (1, .ref h1), (0, .ref b)])
    (hgo : ∀ (H : Heap) (locs : List Loc) (ls : Array Slot) (cells slots : Nat), LwI dC dI kX kT kM kV kC kN kJ kL kF kO kQ kG kw kv kR A s h1 h2 o (j + 1) H locs → lv_has ls 7 [(4, .int (nI (6 * j))), (3, .ref o), (2, .ref h2), (1, .ref h1), (0, .ref b)] → W p l e room_1 s m #[Value.ref b] below meth c H locs cells slots (lw_Z below #[Value.ref b] s) (F0 m 1507 ls [])) : W p l e room_1 s m #[Value.ref b] below meth c H locs cells slots (lw_Z below #[Value.ref b] s) (F0 m 283 ls []) := by
  obtain ⟨hx, hb, hr, hml, hown, hts, hX, hbl, hlocks, hgv⟩ := id C0
  have hb : c.code = cL_law := hb
  have hown : s.vm.findClass RL = some m.cls := hown
  obtain ⟨hA, hA2, hE, hT9, hNc, hKC, hKV, hKR⟩ := E0
  have hbA : ¬ A b := fun h => absurd (hA2 b h) (Nat.not_le.mpr hbl)
  obtain ⟨T, th, Fc, Fs, w, v, g, hC, hR, hT, hP, hD, hS, hz, hn⟩ := hI
  have hbd := hC.bd
  refine W.tight (cells2 := Fc + 1000 * j + 125) (slots2 := Fs + 9000 * j + 181434) hz hn ?_
  refine lv_aload_n hx hb dL_law_283 rfl (lv_at hl 3 rfl) ?_
  refine lw_arg hx hb hX hbl hbA hS (lv_at hl 4 rfl) (lv_at hl 0 rfl) 1 (by omega) hLs (by decide) dL_law_284 dL_law_285 dL_law_287 dL_law_288 dL_law_289 ?_
  refine lawC_i (y := yX11_end) (ws := wsU_end) (mc := 161) (ms := 12800) (As := [.int (xs (6 * j + 1))]) (rest := []) ⟨hx, hb, hml, hown, hts⟩ (U_end l hst dC dI kX kT kM kV kC kN kJ kL kF kO kQ kG kw h1 (((T.1 : Nat) : Int), T.2) Fc Fs w (xs (6 * j + 1)) hC (show ((T.1 : Nat) : Int) ≤ 1260 by omega) H.size) (cwV 1 hts gl_C_end rfl rfl rfl (by decide +kernel) ⟨Nat.le_of_ble_eq_true rfl, Nat.le_of_ble_eq_true rfl⟩) hC.recv hKC hE hA hP hD hS rfl hl.1 (lv_room (Nat.le_of_ble_eq_true rfl)) dL_law_290 ⟨show Fc + 1000 * j + 125 + 161 ≤ 327717 by omega, show Fs + 9000 * j + 181434 + 12800 ≤ 8118330 by omega⟩ (fun r1 u H1 locs1 hp hP hD hS hz1 hs1 => ?_)
  obtain ⟨hC1, hL1⟩ := hp
  refine W.tight (cells2 := u.2.1 + 1000 * (j + 1) + 125) (slots2 := u.2.2.1 + 9000 * (j + 1) + 181434) (by omega) (by omega) ?_
  have hbd1 := hC1.bd
  refine lv_pop hx hb dL_law_293 rfl ?_
  refine lv_aload_n hx hb dL_law_294 rfl (lv_at hl 2 rfl) ?_
  refine lw_arg hx hb hX hbl hbA hS (lv_at hl 4 rfl) (lv_at hl 0 rfl) 1 (by omega) hLs (by decide) dL_law_295 dL_law_296 dL_law_298 dL_law_299 dL_law_300 ?_
  refine lawR_i (y := yX12_end) (ws := wsRX12_end) (mc := 0) (ms := 0) (As := [.int (xs (6 * j + 1))]) (rest := []) ⟨hx, hb, hml, hown, hts⟩ (R_end l dC dI kv h2 T th v (xs (6 * j + 1)) hR (by omega) H1.size) (cwV 1 hts gl_R_end rfl rfl rfl (by decide +kernel) ⟨Nat.le_of_ble_eq_true rfl, Nat.le_of_ble_eq_true rfl⟩) hR.recv hKV hT9 hA hP hD hS rfl hl.1 (lv_room (Nat.le_of_ble_eq_true rfl)) dL_law_301 ⟨show u.2.1 + 1000 * (j + 1) + 125 + 0 ≤ 327717 by omega, show u.2.2.1 + 9000 * (j + 1) + 181434 + 0 ≤ 8118330 by omega⟩ (fun r2 u2 H2 locs2 hp2 hP hD hS => ?_)
  obtain ⟨hR2, hT2⟩ := hp2
  refine lv_pop hx hb dL_law_304 rfl ?_
  refine lv_goto (tgt := 1507) hx hb dL_law_305 (by decide) ?_
  refine W.known (fun z1 z2 => ?_)
  have hTT : (((((u2.1.1 : Nat) : Int), u2.1.2) : LT) = u.1 ∧ u2.1.1 ≤ 20 * (j + 1)) := by
    by_cases h9 : 0 ≤ (xs (6 * j + 1)).toInt ∧ (xs (6 * j + 1)).toInt ≤ 20
    · have a1 := (hL1.1 h9).1
      have a2 := (hT2.1 h9).1
      exact ⟨by rw [a1, a2]; exact lt_t (by dsimp only; omega), by rw [a2]; dsimp only; omega⟩
    · have a1 := (hL1.2 h9).1
      have a2 := (hT2.2 h9).1
      exact ⟨by rw [a1, a2] <;> rfl, by rw [a2]; first | omega | (dsimp only; omega)⟩
  exact hgo H2 locs2 ls _ _ ⟨u2.1, u2.2.1, u.2.1, u.2.2.1, u.2.2.2, u2.2.2, g, by rw [hTT.1]; exact hC1, hR2, hTT.2, hP, hD, hS, by omega, by omega⟩ (lv_sub hl [0, 1, 2, 3, 4] rfl)
set_option maxHeartbeats 4000000 in
set_option maxRecDepth 100000 in
/-- the law's case 2: wipe -/
theorem lc_2 {p : Program} {e : Env} {s : State} {m : MethodId} {below : List Frame} {meth : Method} {c : Code} (l : Launch) (hst : l.stackTraces = false) {b Ls : Nat} {xs : Nat → Int32} (hLs : Ls ≤ 384) (C0 : lw_At p s m meth c b Ls xs) {A : Nat → Prop} (dC : Nat → ClassId) (dI : Nat → Nat → Nat) (kX : Nat → ClassId) (kT : Nat → ClassId) (kM : Nat → ClassId) (kV : Nat → ClassId) (kC : Nat → ClassId) (kN : Nat → ClassId) (kJ : Nat → ClassId) (kL : Nat → ClassId) (kF : Nat → ClassId) (kO : Nat → ClassId) (kQ : Nat → ClassId) (kG : Nat → ClassId) (kw : ClassId) (kv : Nat → ClassId) (kR : ClassId) (E0 : LwC dC dI kX kT kM kV kC kN kJ kL kF kO kQ kG kw kv kR A s) {h1 h2 o j : Nat} (hj : 6 * j + 6 ≤ Ls) {H : Heap} {locs : List Loc} {ls : Array Slot} {cells slots : Nat} (hI : LwI dC dI kX kT kM kV kC kN kJ kL kF kO kQ kG kw kv kR A s h1 h2 o j H locs) (hl : lv_has ls 7 [(4, .int (nI (6 * j))), (3, .ref o), (2, .ref h2), (1, .ref h1), (0, .ref b)])
    (hgo : ∀ (H : Heap) (locs : List Loc) (ls : Array Slot) (cells slots : Nat), LwI dC dI kX kT kM kV kC kN kJ kL kF kO kQ kG kw kv kR A s h1 h2 o (j + 1) H locs → lv_has ls 7 [(4, .int (nI (6 * j))), (3, .ref o), (2, .ref h2), (1, .ref h1), (0, .ref b)] → W p l e room_1 s m #[Value.ref b] below meth c H locs cells slots (lw_Z below #[Value.ref b] s) (F0 m 1507 ls [])) : W p l e room_1 s m #[Value.ref b] below meth c H locs cells slots (lw_Z below #[Value.ref b] s) (F0 m 308 ls []) := by
  obtain ⟨hx, hb, hr, hml, hown, hts, hX, hbl, hlocks, hgv⟩ := id C0
  have hb : c.code = cL_law := hb
  have hown : s.vm.findClass RL = some m.cls := hown
  obtain ⟨hA, hA2, hE, hT9, hNc, hKC, hKV, hKR⟩ := E0
  have hbA : ¬ A b := fun h => absurd (hA2 b h) (Nat.not_le.mpr hbl)
  obtain ⟨T, th, Fc, Fs, w, v, g, hC, hR, hT, hP, hD, hS, hz, hn⟩ := hI
  have hbd := hC.bd
  refine W.tight (cells2 := Fc + 1000 * j + 125) (slots2 := Fs + 9000 * j + 181434) hz hn ?_
  refine lv_aload_n hx hb dL_law_308 rfl (lv_at hl 3 rfl) ?_
  refine lawC_v (y := yX11_wipe) (ws := wsU_wipe) (mc := 0) (ms := 0) (As := []) (rest := []) ⟨hx, hb, hml, hown, hts⟩ (U_wipe l hst dC dI kX kT kM kV kC kN kJ kL kF kO kQ kG kw h1 (((T.1 : Nat) : Int), T.2) Fc Fs w hC H.size) (cwV 0 hts gl_C_wipe rfl rfl rfl (by decide +kernel) ⟨Nat.le_of_ble_eq_true rfl, Nat.le_of_ble_eq_true rfl⟩) hC.recv hKC hE hA hP hD hS rfl hl.1 (lv_room (Nat.le_of_ble_eq_true rfl)) dL_law_309 ⟨show Fc + 1000 * j + 125 + 0 ≤ 327717 by omega, show Fs + 9000 * j + 181434 + 0 ≤ 8118330 by omega⟩ (fun u H1 locs1 hp hP hD hS hz1 hs1 => ?_)
  obtain ⟨hC1, hL1⟩ := hp
  refine W.tight (cells2 := u.2.1 + 1000 * (j + 1) + 125) (slots2 := u.2.2.1 + 9000 * (j + 1) + 181434) (by omega) (by omega) ?_
  have hbd1 := hC1.bd
  refine lv_aload_n hx hb dL_law_312 rfl (lv_at hl 2 rfl) ?_
  refine lawR_v (y := yX12_wipe) (ws := wsRX12_wipe) (mc := 0) (ms := 0) (As := []) (rest := []) ⟨hx, hb, hml, hown, hts⟩ (R_wipe l dC dI kv h2 T th v hR H1.size) (cwV 0 hts gl_R_wipe rfl rfl rfl (by decide +kernel) ⟨Nat.le_of_ble_eq_true rfl, Nat.le_of_ble_eq_true rfl⟩) hR.recv hKV hT9 hA hP hD hS rfl hl.1 (lv_room (Nat.le_of_ble_eq_true rfl)) dL_law_313 ⟨show u.2.1 + 1000 * (j + 1) + 125 + 0 ≤ 327717 by omega, show u.2.2.1 + 9000 * (j + 1) + 181434 + 0 ≤ 8118330 by omega⟩ (fun u2 H2 locs2 hp2 hP hD hS => ?_)
  obtain ⟨hR2, hT2⟩ := hp2
  refine lv_goto (tgt := 1507) hx hb dL_law_316 (by decide) ?_
  refine W.known (fun z1 z2 => ?_)
  have hTT : (((((u2.1.1 : Nat) : Int), u2.1.2) : LT) = u.1 ∧ u2.1.1 ≤ 20 * (j + 1)) := ⟨by rw [hL1, hT2] <;> rfl, by rw [hT2]; first | omega | (dsimp only; omega)⟩
  exact hgo H2 locs2 ls _ _ ⟨u2.1, u2.2.1, u.2.1, u.2.2.1, u.2.2.2, u2.2.2, g, by rw [hTT.1]; exact hC1, hR2, hTT.2, hP, hD, hS, by omega, by omega⟩ (lv_sub hl [0, 1, 2, 3, 4] rfl)
set_option maxHeartbeats 4000000 in
set_option maxRecDepth 100000 in
/-- the law's case 3: read -/
theorem lc_3 {p : Program} {e : Env} {s : State} {m : MethodId} {below : List Frame} {meth : Method} {c : Code} (l : Launch) (hst : l.stackTraces = false) {b Ls : Nat} {xs : Nat → Int32} (hLs : Ls ≤ 384) (C0 : lw_At p s m meth c b Ls xs) {A : Nat → Prop} (dC : Nat → ClassId) (dI : Nat → Nat → Nat) (kX : Nat → ClassId) (kT : Nat → ClassId) (kM : Nat → ClassId) (kV : Nat → ClassId) (kC : Nat → ClassId) (kN : Nat → ClassId) (kJ : Nat → ClassId) (kL : Nat → ClassId) (kF : Nat → ClassId) (kO : Nat → ClassId) (kQ : Nat → ClassId) (kG : Nat → ClassId) (kw : ClassId) (kv : Nat → ClassId) (kR : ClassId) (E0 : LwC dC dI kX kT kM kV kC kN kJ kL kF kO kQ kG kw kv kR A s) {h1 h2 o j : Nat} (hj : 6 * j + 6 ≤ Ls) {H : Heap} {locs : List Loc} {ls : Array Slot} {cells slots : Nat} (hI : LwI dC dI kX kT kM kV kC kN kJ kL kF kO kQ kG kw kv kR A s h1 h2 o j H locs) (hl : lv_has ls 7 [(4, .int (nI (6 * j))), (3, .ref o), (2, .ref h2), (1, .ref h1), (0, .ref b)])
    (hgo : ∀ (H : Heap) (locs : List Loc) (ls : Array Slot) (cells slots : Nat), LwI dC dI kX kT kM kV kC kN kJ kL kF kO kQ kG kw kv kR A s h1 h2 o (j + 1) H locs → lv_has ls 7 [(4, .int (nI (6 * j))), (3, .ref o), (2, .ref h2), (1, .ref h1), (0, .ref b)] → W p l e room_1 s m #[Value.ref b] below meth c H locs cells slots (lw_Z below #[Value.ref b] s) (F0 m 1507 ls [])) : W p l e room_1 s m #[Value.ref b] below meth c H locs cells slots (lw_Z below #[Value.ref b] s) (F0 m 319 ls []) := by
  obtain ⟨hx, hb, hr, hml, hown, hts, hX, hbl, hlocks, hgv⟩ := id C0
  have hb : c.code = cL_law := hb
  have hown : s.vm.findClass RL = some m.cls := hown
  obtain ⟨hA, hA2, hE, hT9, hNc, hKC, hKV, hKR⟩ := E0
  have hbA : ¬ A b := fun h => absurd (hA2 b h) (Nat.not_le.mpr hbl)
  obtain ⟨T, th, Fc, Fs, w, v, g, hC, hR, hT, hP, hD, hS, hz, hn⟩ := hI
  have hbd := hC.bd
  refine W.tight (cells2 := Fc + 1000 * j + 125) (slots2 := Fs + 9000 * j + 181434) hz hn ?_
  refine lv_aload_n hx hb dL_law_319 rfl (lv_at hl 3 rfl) ?_
  refine lv_aload_n hx hb dL_law_320 rfl (lv_at hl 1 rfl) ?_
  refine lawH_i (y := yL_read) (ws := wsH_read) (mc := 39027) (ms := 608800) (As := [.ref h1, .ref o]) (rest := []) ⟨hx, hb, hml, hown, hts⟩ (H_read l hst dC dI kX kT kM kV kC kN kJ kL kF kO kQ kG kw h1 (((T.1 : Nat) : Int), T.2) Fc Fs w o kR g hC H.size) (vx_cwSW 2 hts gl_H_read rfl rfl rfl (by decide +kernel) ⟨Nat.le_of_ble_eq_true rfl, Nat.le_of_ble_eq_true rfl⟩) (hKR.app hKC) hE hNc hA hP hD hS rfl hl.1 (lv_room (Nat.le_of_ble_eq_true rfl)) dL_law_321 ⟨show Fc + 1000 * j + 125 + 39027 ≤ 327717 by omega, show Fs + 9000 * j + 181434 + 608800 ≤ 8118330 by omega⟩ (fun r1 u H1 locs1 hp hP hD hS hz1 hs1 => ?_)
  obtain ⟨hC1, hL1⟩ := hp
  refine W.tight (cells2 := u.2.1 + 1000 * (j + 1) + 125) (slots2 := u.2.2.1 + 9000 * (j + 1) + 181434) (by omega) (by omega) ?_
  have hbd1 := hC1.bd
  refine lv_istore hx hb dL_law_324 hl (by decide) rfl (fun ls (hl : lv_has ls _ ([(5, .int r1), (4, .int (nI (6 * j))), (3, .ref o), (2, .ref h2), (1, .ref h1), (0, .ref b)])) => ?_)
  refine lv_aload_n hx hb dL_law_326 rfl (lv_at hl 3 rfl) ?_
  refine lawR_i (y := yX12_read) (ws := wsRX12_read) (mc := 0) (ms := 0) (As := []) (rest := []) ⟨hx, hb, hml, hown, hts⟩ (R_read l dC dI kv h2 T th v hR H1.size) (cwV 0 hts gl_R_read rfl rfl rfl (by decide +kernel) ⟨Nat.le_of_ble_eq_true rfl, Nat.le_of_ble_eq_true rfl⟩) hR.recv hKV hT9 hA hP hD hS rfl hl.1 (lv_room (Nat.le_of_ble_eq_true rfl)) dL_law_327 ⟨show u.2.1 + 1000 * (j + 1) + 125 + 0 ≤ 327717 by omega, show u.2.2.1 + 9000 * (j + 1) + 181434 + 0 ≤ 8118330 by omega⟩ (fun r2 u2 H2 locs2 hp2 hP hD hS => ?_)
  obtain ⟨hR2, hT2⟩ := hp2
  refine lv_istore hx hb dL_law_330 hl (by decide) rfl (fun ls (hl : lv_has ls _ ([(6, .int r2), (5, .int r1), (4, .int (nI (6 * j))), (3, .ref o), (2, .ref h2), (1, .ref h1), (0, .ref b)])) => ?_)
  refine lv_goto (tgt := 1507) hx hb dL_law_332 (by decide) ?_
  refine W.known (fun z1 z2 => ?_)
  have hTT : (((((u2.1.1 : Nat) : Int), u2.1.2) : LT) = u.1 ∧ u2.1.1 ≤ 20 * (j + 1)) := ⟨by rw [hL1, hT2] <;> rfl, by rw [hT2]; first | omega | (dsimp only; omega)⟩
  exact hgo H2 locs2 ls _ _ ⟨u2.1, u2.2.1, u.2.1, u.2.2.1, u.2.2.2.1, u2.2.2, u.2.2.2.2, by rw [hTT.1]; exact hC1, hR2, hTT.2, hP, hD, hS, by omega, by omega⟩ (lv_sub hl [2, 3, 4, 5, 6] rfl)
set_option maxHeartbeats 4000000 in
set_option maxRecDepth 100000 in
/-- the law's case 4: fault -/
theorem lc_4 {p : Program} {e : Env} {s : State} {m : MethodId} {below : List Frame} {meth : Method} {c : Code} (l : Launch) (hst : l.stackTraces = false) {b Ls : Nat} {xs : Nat → Int32} (hLs : Ls ≤ 384) (C0 : lw_At p s m meth c b Ls xs) {A : Nat → Prop} (dC : Nat → ClassId) (dI : Nat → Nat → Nat) (kX : Nat → ClassId) (kT : Nat → ClassId) (kM : Nat → ClassId) (kV : Nat → ClassId) (kC : Nat → ClassId) (kN : Nat → ClassId) (kJ : Nat → ClassId) (kL : Nat → ClassId) (kF : Nat → ClassId) (kO : Nat → ClassId) (kQ : Nat → ClassId) (kG : Nat → ClassId) (kw : ClassId) (kv : Nat → ClassId) (kR : ClassId) (E0 : LwC dC dI kX kT kM kV kC kN kJ kL kF kO kQ kG kw kv kR A s) {h1 h2 o j : Nat} (hj : 6 * j + 6 ≤ Ls) {H : Heap} {locs : List Loc} {ls : Array Slot} {cells slots : Nat} (hI : LwI dC dI kX kT kM kV kC kN kJ kL kF kO kQ kG kw kv kR A s h1 h2 o j H locs) (hl : lv_has ls 7 [(4, .int (nI (6 * j))), (3, .ref o), (2, .ref h2), (1, .ref h1), (0, .ref b)])
    (hgo : ∀ (H : Heap) (locs : List Loc) (ls : Array Slot) (cells slots : Nat), LwI dC dI kX kT kM kV kC kN kJ kL kF kO kQ kG kw kv kR A s h1 h2 o (j + 1) H locs → lv_has ls 7 [(4, .int (nI (6 * j))), (3, .ref o), (2, .ref h2), (1, .ref h1), (0, .ref b)] → W p l e room_1 s m #[Value.ref b] below meth c H locs cells slots (lw_Z below #[Value.ref b] s) (F0 m 1507 ls [])) : W p l e room_1 s m #[Value.ref b] below meth c H locs cells slots (lw_Z below #[Value.ref b] s) (F0 m 335 ls []) := by
  obtain ⟨hx, hb, hr, hml, hown, hts, hX, hbl, hlocks, hgv⟩ := id C0
  have hb : c.code = cL_law := hb
  have hown : s.vm.findClass RL = some m.cls := hown
  obtain ⟨hA, hA2, hE, hT9, hNc, hKC, hKV, hKR⟩ := E0
  have hbA : ¬ A b := fun h => absurd (hA2 b h) (Nat.not_le.mpr hbl)
  obtain ⟨T, th, Fc, Fs, w, v, g, hC, hR, hT, hP, hD, hS, hz, hn⟩ := hI
  have hbd := hC.bd
  refine W.tight (cells2 := Fc + 1000 * j + 125) (slots2 := Fs + 9000 * j + 181434) hz hn ?_
  refine lv_aload_n hx hb dL_law_335 rfl (lv_at hl 3 rfl) ?_
  refine lw_arg hx hb hX hbl hbA hS (lv_at hl 4 rfl) (lv_at hl 0 rfl) 1 (by omega) hLs (by decide) dL_law_336 dL_law_337 dL_law_339 dL_law_340 dL_law_341 ?_
  refine lawC_i (y := yX11_fault) (ws := wsU_fault) (mc := 0) (ms := 0) (As := [.int (xs (6 * j + 1))]) (rest := []) ⟨hx, hb, hml, hown, hts⟩ (U_fault l hst dC dI kX kT kM kV kC kN kJ kL kF kO kQ kG kw h1 (((T.1 : Nat) : Int), T.2) Fc Fs w (xs (6 * j + 1)) hC H.size) (cwV 1 hts gl_C_fault rfl rfl rfl (by decide +kernel) ⟨Nat.le_of_ble_eq_true rfl, Nat.le_of_ble_eq_true rfl⟩) hC.recv hKC hE hA hP hD hS rfl hl.1 (lv_room (Nat.le_of_ble_eq_true rfl)) dL_law_342 ⟨show Fc + 1000 * j + 125 + 0 ≤ 327717 by omega, show Fs + 9000 * j + 181434 + 0 ≤ 8118330 by omega⟩ (fun r1 u H1 locs1 hp hP hD hS hz1 hs1 => ?_)
  obtain ⟨hC1, hL1⟩ := hp
  refine W.tight (cells2 := u.2.1 + 1000 * (j + 1) + 125) (slots2 := u.2.2.1 + 9000 * (j + 1) + 181434) (by omega) (by omega) ?_
  have hbd1 := hC1.bd
  refine lv_pop hx hb dL_law_345 rfl ?_
  refine lv_aload_n hx hb dL_law_346 rfl (lv_at hl 2 rfl) ?_
  refine lw_arg hx hb hX hbl hbA hS (lv_at hl 4 rfl) (lv_at hl 0 rfl) 1 (by omega) hLs (by decide) dL_law_347 dL_law_348 dL_law_350 dL_law_351 dL_law_352 ?_
  refine lawR_i (y := yX12_fault) (ws := wsRX12_fault) (mc := 0) (ms := 0) (As := [.int (xs (6 * j + 1))]) (rest := []) ⟨hx, hb, hml, hown, hts⟩ (R_fault l dC dI kv h2 T th v (xs (6 * j + 1)) hR H1.size) (cwV 1 hts gl_R_fault rfl rfl rfl (by decide +kernel) ⟨Nat.le_of_ble_eq_true rfl, Nat.le_of_ble_eq_true rfl⟩) hR.recv hKV hT9 hA hP hD hS rfl hl.1 (lv_room (Nat.le_of_ble_eq_true rfl)) dL_law_353 ⟨show u.2.1 + 1000 * (j + 1) + 125 + 0 ≤ 327717 by omega, show u.2.2.1 + 9000 * (j + 1) + 181434 + 0 ≤ 8118330 by omega⟩ (fun r2 u2 H2 locs2 hp2 hP hD hS => ?_)
  obtain ⟨hR2, hT2⟩ := hp2
  refine lv_pop hx hb dL_law_356 rfl ?_
  refine lv_goto (tgt := 1507) hx hb dL_law_357 (by decide) ?_
  refine W.known (fun z1 z2 => ?_)
  have hTT : (((((u2.1.1 : Nat) : Int), u2.1.2) : LT) = u.1 ∧ u2.1.1 ≤ 20 * (j + 1)) := ⟨by rw [hL1, hT2] <;> rfl, by rw [hT2]; first | omega | (dsimp only; omega)⟩
  exact hgo H2 locs2 ls _ _ ⟨u2.1, u2.2.1, u.2.1, u.2.2.1, u.2.2.2, u2.2.2, g, by rw [hTT.1]; exact hC1, hR2, hTT.2, hP, hD, hS, by omega, by omega⟩ (lv_sub hl [0, 1, 2, 3, 4] rfl)
set_option maxHeartbeats 4000000 in
set_option maxRecDepth 100000 in
/-- the law's case 5: variable -/
theorem lc_5 {p : Program} {e : Env} {s : State} {m : MethodId} {below : List Frame} {meth : Method} {c : Code} (l : Launch) (hst : l.stackTraces = false) {b Ls : Nat} {xs : Nat → Int32} (hLs : Ls ≤ 384) (C0 : lw_At p s m meth c b Ls xs) {A : Nat → Prop} (dC : Nat → ClassId) (dI : Nat → Nat → Nat) (kX : Nat → ClassId) (kT : Nat → ClassId) (kM : Nat → ClassId) (kV : Nat → ClassId) (kC : Nat → ClassId) (kN : Nat → ClassId) (kJ : Nat → ClassId) (kL : Nat → ClassId) (kF : Nat → ClassId) (kO : Nat → ClassId) (kQ : Nat → ClassId) (kG : Nat → ClassId) (kw : ClassId) (kv : Nat → ClassId) (kR : ClassId) (E0 : LwC dC dI kX kT kM kV kC kN kJ kL kF kO kQ kG kw kv kR A s) {h1 h2 o j : Nat} (hj : 6 * j + 6 ≤ Ls) {H : Heap} {locs : List Loc} {ls : Array Slot} {cells slots : Nat} (hI : LwI dC dI kX kT kM kV kC kN kJ kL kF kO kQ kG kw kv kR A s h1 h2 o j H locs) (hl : lv_has ls 7 [(4, .int (nI (6 * j))), (3, .ref o), (2, .ref h2), (1, .ref h1), (0, .ref b)])
    (hgo : ∀ (H : Heap) (locs : List Loc) (ls : Array Slot) (cells slots : Nat), LwI dC dI kX kT kM kV kC kN kJ kL kF kO kQ kG kw kv kR A s h1 h2 o (j + 1) H locs → lv_has ls 7 [(4, .int (nI (6 * j))), (3, .ref o), (2, .ref h2), (1, .ref h1), (0, .ref b)] → W p l e room_1 s m #[Value.ref b] below meth c H locs cells slots (lw_Z below #[Value.ref b] s) (F0 m 1507 ls [])) : W p l e room_1 s m #[Value.ref b] below meth c H locs cells slots (lw_Z below #[Value.ref b] s) (F0 m 360 ls []) := by
  obtain ⟨hx, hb, hr, hml, hown, hts, hX, hbl, hlocks, hgv⟩ := id C0
  have hb : c.code = cL_law := hb
  have hown : s.vm.findClass RL = some m.cls := hown
  obtain ⟨hA, hA2, hE, hT9, hNc, hKC, hKV, hKR⟩ := E0
  have hbA : ¬ A b := fun h => absurd (hA2 b h) (Nat.not_le.mpr hbl)
  obtain ⟨T, th, Fc, Fs, w, v, g, hC, hR, hT, hP, hD, hS, hz, hn⟩ := hI
  have hbd := hC.bd
  refine W.tight (cells2 := Fc + 1000 * j + 125) (slots2 := Fs + 9000 * j + 181434) hz hn ?_
  refine lv_aload_n hx hb dL_law_360 rfl (lv_at hl 3 rfl) ?_
  refine lw_arg hx hb hX hbl hbA hS (lv_at hl 4 rfl) (lv_at hl 0 rfl) 1 (by omega) hLs (by decide) dL_law_361 dL_law_362 dL_law_364 dL_law_365 dL_law_366 ?_
  refine lw_arg hx hb hX hbl hbA hS (lv_at hl 4 rfl) (lv_at hl 0 rfl) 2 (by omega) hLs (by decide) dL_law_367 dL_law_368 dL_law_370 dL_law_371 dL_law_372 ?_
  refine lv_aload_n hx hb dL_law_373 rfl (lv_at hl 1 rfl) ?_
  refine lawH_i (y := yL_variable) (ws := wsH_variable) (mc := 1) (ms := 6) (As := [.ref h1, .int (xs (6 * j + 1)), .int (xs (6 * j + 2)), .ref o]) (rest := []) ⟨hx, hb, hml, hown, hts⟩ (H_variable l hst dC dI kX kT kM kV kC kN kJ kL kF kO kQ kG kw h1 (((T.1 : Nat) : Int), T.2) Fc Fs w (xs (6 * j + 1)) (xs (6 * j + 2)) o kR g hC H.size) (vx_cwSW 4 hts gl_H_variable rfl rfl rfl (by decide +kernel) ⟨Nat.le_of_ble_eq_true rfl, Nat.le_of_ble_eq_true rfl⟩) (hKR.app hKC) hE hNc hA hP hD hS rfl hl.1 (lv_room (Nat.le_of_ble_eq_true rfl)) dL_law_374 ⟨show Fc + 1000 * j + 125 + 1 ≤ 327717 by omega, show Fs + 9000 * j + 181434 + 6 ≤ 8118330 by omega⟩ (fun r1 u H1 locs1 hp hP hD hS hz1 hs1 => ?_)
  obtain ⟨hC1, hL1⟩ := hp
  refine W.tight (cells2 := u.2.1 + 1000 * (j + 1) + 125) (slots2 := u.2.2.1 + 9000 * (j + 1) + 181434) (by omega) (by omega) ?_
  have hbd1 := hC1.bd
  refine lv_istore hx hb dL_law_377 hl (by decide) rfl (fun ls (hl : lv_has ls _ ([(5, .int r1), (4, .int (nI (6 * j))), (3, .ref o), (2, .ref h2), (1, .ref h1), (0, .ref b)])) => ?_)
  refine lv_aload_n hx hb dL_law_379 rfl (lv_at hl 3 rfl) ?_
  refine lw_arg hx hb hX hbl hbA hS (lv_at hl 5 rfl) (lv_at hl 1 rfl) 1 (by omega) hLs (by decide) dL_law_380 dL_law_381 dL_law_383 dL_law_384 dL_law_385 ?_
  refine lw_arg hx hb hX hbl hbA hS (lv_at hl 5 rfl) (lv_at hl 1 rfl) 2 (by omega) hLs (by decide) dL_law_386 dL_law_387 dL_law_389 dL_law_390 dL_law_391 ?_
  refine lawR_i (y := yX12_variable) (ws := wsRX12_variable) (mc := 0) (ms := 0) (As := [.int (xs (6 * j + 1)), .int (xs (6 * j + 2))]) (rest := []) ⟨hx, hb, hml, hown, hts⟩ (R_variable l dC dI kv h2 T th v (xs (6 * j + 1)) (xs (6 * j + 2)) hR H1.size) (cwV 2 hts gl_R_variable rfl rfl rfl (by decide +kernel) ⟨Nat.le_of_ble_eq_true rfl, Nat.le_of_ble_eq_true rfl⟩) hR.recv hKV hT9 hA hP hD hS rfl hl.1 (lv_room (Nat.le_of_ble_eq_true rfl)) dL_law_392 ⟨show u.2.1 + 1000 * (j + 1) + 125 + 0 ≤ 327717 by omega, show u.2.2.1 + 9000 * (j + 1) + 181434 + 0 ≤ 8118330 by omega⟩ (fun r2 u2 H2 locs2 hp2 hP hD hS => ?_)
  obtain ⟨hR2, hT2⟩ := hp2
  refine lv_istore hx hb dL_law_395 hl (by decide) rfl (fun ls (hl : lv_has ls _ ([(6, .int r2), (5, .int r1), (4, .int (nI (6 * j))), (3, .ref o), (2, .ref h2), (1, .ref h1), (0, .ref b)])) => ?_)
  refine lv_goto (tgt := 1507) hx hb dL_law_397 (by decide) ?_
  refine W.known (fun z1 z2 => ?_)
  have hTT : (((((u2.1.1 : Nat) : Int), u2.1.2) : LT) = u.1 ∧ u2.1.1 ≤ 20 * (j + 1)) := ⟨by rw [hL1, hT2] <;> rfl, by rw [hT2]; first | omega | (dsimp only; omega)⟩
  exact hgo H2 locs2 ls _ _ ⟨u2.1, u2.2.1, u.2.1, u.2.2.1, u.2.2.2.1, u2.2.2, u.2.2.2.2, by rw [hTT.1]; exact hC1, hR2, hTT.2, hP, hD, hS, by omega, by omega⟩ (lv_sub hl [2, 3, 4, 5, 6] rfl)
set_option maxHeartbeats 4000000 in
set_option maxRecDepth 100000 in
/-- the law's case 6: row -/
theorem lc_6 {p : Program} {e : Env} {s : State} {m : MethodId} {below : List Frame} {meth : Method} {c : Code} (l : Launch) (hst : l.stackTraces = false) {b Ls : Nat} {xs : Nat → Int32} (hLs : Ls ≤ 384) (C0 : lw_At p s m meth c b Ls xs) {A : Nat → Prop} (dC : Nat → ClassId) (dI : Nat → Nat → Nat) (kX : Nat → ClassId) (kT : Nat → ClassId) (kM : Nat → ClassId) (kV : Nat → ClassId) (kC : Nat → ClassId) (kN : Nat → ClassId) (kJ : Nat → ClassId) (kL : Nat → ClassId) (kF : Nat → ClassId) (kO : Nat → ClassId) (kQ : Nat → ClassId) (kG : Nat → ClassId) (kw : ClassId) (kv : Nat → ClassId) (kR : ClassId) (E0 : LwC dC dI kX kT kM kV kC kN kJ kL kF kO kQ kG kw kv kR A s) {h1 h2 o j : Nat} (hj : 6 * j + 6 ≤ Ls) {H : Heap} {locs : List Loc} {ls : Array Slot} {cells slots : Nat} (hI : LwI dC dI kX kT kM kV kC kN kJ kL kF kO kQ kG kw kv kR A s h1 h2 o j H locs) (hl : lv_has ls 7 [(4, .int (nI (6 * j))), (3, .ref o), (2, .ref h2), (1, .ref h1), (0, .ref b)])
    (hgo : ∀ (H : Heap) (locs : List Loc) (ls : Array Slot) (cells slots : Nat), LwI dC dI kX kT kM kV kC kN kJ kL kF kO kQ kG kw kv kR A s h1 h2 o (j + 1) H locs → lv_has ls 7 [(4, .int (nI (6 * j))), (3, .ref o), (2, .ref h2), (1, .ref h1), (0, .ref b)] → W p l e room_1 s m #[Value.ref b] below meth c H locs cells slots (lw_Z below #[Value.ref b] s) (F0 m 1507 ls [])) : W p l e room_1 s m #[Value.ref b] below meth c H locs cells slots (lw_Z below #[Value.ref b] s) (F0 m 400 ls []) := by
  obtain ⟨hx, hb, hr, hml, hown, hts, hX, hbl, hlocks, hgv⟩ := id C0
  have hb : c.code = cL_law := hb
  have hown : s.vm.findClass RL = some m.cls := hown
  obtain ⟨hA, hA2, hE, hT9, hNc, hKC, hKV, hKR⟩ := E0
  have hbA : ¬ A b := fun h => absurd (hA2 b h) (Nat.not_le.mpr hbl)
  obtain ⟨T, th, Fc, Fs, w, v, g, hC, hR, hT, hP, hD, hS, hz, hn⟩ := hI
  have hbd := hC.bd
  refine W.tight (cells2 := Fc + 1000 * j + 125) (slots2 := Fs + 9000 * j + 181434) hz hn ?_
  refine lv_aload_n hx hb dL_law_400 rfl (lv_at hl 3 rfl) ?_
  refine lw_arg hx hb hX hbl hbA hS (lv_at hl 4 rfl) (lv_at hl 0 rfl) 1 (by omega) hLs (by decide) dL_law_401 dL_law_402 dL_law_404 dL_law_405 dL_law_406 ?_
  refine lw_arg hx hb hX hbl hbA hS (lv_at hl 4 rfl) (lv_at hl 0 rfl) 2 (by omega) hLs (by decide) dL_law_407 dL_law_408 dL_law_410 dL_law_411 dL_law_412 ?_
  refine lw_arg hx hb hX hbl hbA hS (lv_at hl 4 rfl) (lv_at hl 0 rfl) 3 (by omega) hLs (by decide) dL_law_413 dL_law_414 dL_law_416 dL_law_417 dL_law_418 ?_
  refine lv_aload_n hx hb dL_law_419 rfl (lv_at hl 1 rfl) ?_
  refine lawH_i (y := yL_row) (ws := wsH_row) (mc := 1) (ms := 6) (As := [.ref h1, .int (xs (6 * j + 1)), .int (xs (6 * j + 2)), .int (xs (6 * j + 3)), .ref o]) (rest := []) ⟨hx, hb, hml, hown, hts⟩ (H_row l hst dC dI kX kT kM kV kC kN kJ kL kF kO kQ kG kw h1 (((T.1 : Nat) : Int), T.2) Fc Fs w (xs (6 * j + 1)) (xs (6 * j + 2)) (xs (6 * j + 3)) o kR g hC H.size) (vx_cwSW 5 hts gl_H_row rfl rfl rfl (by decide +kernel) ⟨Nat.le_of_ble_eq_true rfl, Nat.le_of_ble_eq_true rfl⟩) (hKR.app hKC) hE hNc hA hP hD hS rfl hl.1 (lv_room (Nat.le_of_ble_eq_true rfl)) dL_law_420 ⟨show Fc + 1000 * j + 125 + 1 ≤ 327717 by omega, show Fs + 9000 * j + 181434 + 6 ≤ 8118330 by omega⟩ (fun r1 u H1 locs1 hp hP hD hS hz1 hs1 => ?_)
  obtain ⟨hC1, hL1⟩ := hp
  refine W.tight (cells2 := u.2.1 + 1000 * (j + 1) + 125) (slots2 := u.2.2.1 + 9000 * (j + 1) + 181434) (by omega) (by omega) ?_
  have hbd1 := hC1.bd
  refine lv_istore hx hb dL_law_423 hl (by decide) rfl (fun ls (hl : lv_has ls _ ([(5, .int r1), (4, .int (nI (6 * j))), (3, .ref o), (2, .ref h2), (1, .ref h1), (0, .ref b)])) => ?_)
  refine lv_aload_n hx hb dL_law_425 rfl (lv_at hl 3 rfl) ?_
  refine lw_arg hx hb hX hbl hbA hS (lv_at hl 5 rfl) (lv_at hl 1 rfl) 1 (by omega) hLs (by decide) dL_law_426 dL_law_427 dL_law_429 dL_law_430 dL_law_431 ?_
  refine lw_arg hx hb hX hbl hbA hS (lv_at hl 5 rfl) (lv_at hl 1 rfl) 2 (by omega) hLs (by decide) dL_law_432 dL_law_433 dL_law_435 dL_law_436 dL_law_437 ?_
  refine lw_arg hx hb hX hbl hbA hS (lv_at hl 5 rfl) (lv_at hl 1 rfl) 3 (by omega) hLs (by decide) dL_law_438 dL_law_439 dL_law_441 dL_law_442 dL_law_443 ?_
  refine lawR_i (y := yX12_row) (ws := wsRX12_row) (mc := 0) (ms := 0) (As := [.int (xs (6 * j + 1)), .int (xs (6 * j + 2)), .int (xs (6 * j + 3))]) (rest := []) ⟨hx, hb, hml, hown, hts⟩ (R_row l dC dI kv h2 T th v (xs (6 * j + 1)) (xs (6 * j + 2)) (xs (6 * j + 3)) hR H1.size) (cwV 3 hts gl_R_row rfl rfl rfl (by decide +kernel) ⟨Nat.le_of_ble_eq_true rfl, Nat.le_of_ble_eq_true rfl⟩) hR.recv hKV hT9 hA hP hD hS rfl hl.1 (lv_room (Nat.le_of_ble_eq_true rfl)) dL_law_444 ⟨show u.2.1 + 1000 * (j + 1) + 125 + 0 ≤ 327717 by omega, show u.2.2.1 + 9000 * (j + 1) + 181434 + 0 ≤ 8118330 by omega⟩ (fun r2 u2 H2 locs2 hp2 hP hD hS => ?_)
  obtain ⟨hR2, hT2⟩ := hp2
  refine lv_istore hx hb dL_law_447 hl (by decide) rfl (fun ls (hl : lv_has ls _ ([(6, .int r2), (5, .int r1), (4, .int (nI (6 * j))), (3, .ref o), (2, .ref h2), (1, .ref h1), (0, .ref b)])) => ?_)
  refine lv_goto (tgt := 1507) hx hb dL_law_449 (by decide) ?_
  refine W.known (fun z1 z2 => ?_)
  have hTT : (((((u2.1.1 : Nat) : Int), u2.1.2) : LT) = u.1 ∧ u2.1.1 ≤ 20 * (j + 1)) := ⟨by rw [hL1, hT2] <;> rfl, by rw [hT2]; first | omega | (dsimp only; omega)⟩
  exact hgo H2 locs2 ls _ _ ⟨u2.1, u2.2.1, u.2.1, u.2.2.1, u.2.2.2.1, u2.2.2, u.2.2.2.2, by rw [hTT.1]; exact hC1, hR2, hTT.2, hP, hD, hS, by omega, by omega⟩ (lv_sub hl [2, 3, 4, 5, 6] rfl)
set_option maxHeartbeats 4000000 in
set_option maxRecDepth 100000 in
/-- the law's case 7: goal -/
theorem lc_7 {p : Program} {e : Env} {s : State} {m : MethodId} {below : List Frame} {meth : Method} {c : Code} (l : Launch) (hst : l.stackTraces = false) {b Ls : Nat} {xs : Nat → Int32} (hLs : Ls ≤ 384) (C0 : lw_At p s m meth c b Ls xs) {A : Nat → Prop} (dC : Nat → ClassId) (dI : Nat → Nat → Nat) (kX : Nat → ClassId) (kT : Nat → ClassId) (kM : Nat → ClassId) (kV : Nat → ClassId) (kC : Nat → ClassId) (kN : Nat → ClassId) (kJ : Nat → ClassId) (kL : Nat → ClassId) (kF : Nat → ClassId) (kO : Nat → ClassId) (kQ : Nat → ClassId) (kG : Nat → ClassId) (kw : ClassId) (kv : Nat → ClassId) (kR : ClassId) (E0 : LwC dC dI kX kT kM kV kC kN kJ kL kF kO kQ kG kw kv kR A s) {h1 h2 o j : Nat} (hj : 6 * j + 6 ≤ Ls) {H : Heap} {locs : List Loc} {ls : Array Slot} {cells slots : Nat} (hI : LwI dC dI kX kT kM kV kC kN kJ kL kF kO kQ kG kw kv kR A s h1 h2 o j H locs) (hl : lv_has ls 7 [(4, .int (nI (6 * j))), (3, .ref o), (2, .ref h2), (1, .ref h1), (0, .ref b)])
    (hgo : ∀ (H : Heap) (locs : List Loc) (ls : Array Slot) (cells slots : Nat), LwI dC dI kX kT kM kV kC kN kJ kL kF kO kQ kG kw kv kR A s h1 h2 o (j + 1) H locs → lv_has ls 7 [(4, .int (nI (6 * j))), (3, .ref o), (2, .ref h2), (1, .ref h1), (0, .ref b)] → W p l e room_1 s m #[Value.ref b] below meth c H locs cells slots (lw_Z below #[Value.ref b] s) (F0 m 1507 ls [])) : W p l e room_1 s m #[Value.ref b] below meth c H locs cells slots (lw_Z below #[Value.ref b] s) (F0 m 452 ls []) := by
  obtain ⟨hx, hb, hr, hml, hown, hts, hX, hbl, hlocks, hgv⟩ := id C0
  have hb : c.code = cL_law := hb
  have hown : s.vm.findClass RL = some m.cls := hown
  obtain ⟨hA, hA2, hE, hT9, hNc, hKC, hKV, hKR⟩ := E0
  have hbA : ¬ A b := fun h => absurd (hA2 b h) (Nat.not_le.mpr hbl)
  obtain ⟨T, th, Fc, Fs, w, v, g, hC, hR, hT, hP, hD, hS, hz, hn⟩ := hI
  have hbd := hC.bd
  refine W.tight (cells2 := Fc + 1000 * j + 125) (slots2 := Fs + 9000 * j + 181434) hz hn ?_
  refine lv_aload_n hx hb dL_law_452 rfl (lv_at hl 3 rfl) ?_
  refine lw_arg hx hb hX hbl hbA hS (lv_at hl 4 rfl) (lv_at hl 0 rfl) 1 (by omega) hLs (by decide) dL_law_453 dL_law_454 dL_law_456 dL_law_457 dL_law_458 ?_
  refine lw_arg hx hb hX hbl hbA hS (lv_at hl 4 rfl) (lv_at hl 0 rfl) 2 (by omega) hLs (by decide) dL_law_459 dL_law_460 dL_law_462 dL_law_463 dL_law_464 ?_
  refine lw_arg hx hb hX hbl hbA hS (lv_at hl 4 rfl) (lv_at hl 0 rfl) 3 (by omega) hLs (by decide) dL_law_465 dL_law_466 dL_law_468 dL_law_469 dL_law_470 ?_
  refine lv_if_eq (tgt := 478) hx hb dL_law_471 (by decide) (fun hc9 => ?_) (fun hc9 => ?_)
  · refine lv_iconst (v := 0) hx hb dL_law_478 (by decide) ?_
    refine lv_aload_n hx hb dL_law_479 rfl (lv_at hl 1 rfl) ?_
    refine lawH_i (y := yL_goal) (ws := wsH_goal) (mc := 1) (ms := 6) (As := [.ref h1, .int (xs (6 * j + 1)), .int (xs (6 * j + 2)), .int 0, .ref o]) (rest := []) ⟨hx, hb, hml, hown, hts⟩ (H_goal l hst dC dI kX kT kM kV kC kN kJ kL kF kO kQ kG kw h1 (((T.1 : Nat) : Int), T.2) Fc Fs w (xs (6 * j + 1)) (xs (6 * j + 2)) 0 o kR g hC H.size) (vx_cwSW 5 hts gl_H_goal rfl rfl rfl (by decide +kernel) ⟨Nat.le_of_ble_eq_true rfl, Nat.le_of_ble_eq_true rfl⟩) (hKR.app hKC) hE hNc hA hP hD hS rfl hl.1 (lv_room (Nat.le_of_ble_eq_true rfl)) dL_law_480 ⟨show Fc + 1000 * j + 125 + 1 ≤ 327717 by omega, show Fs + 9000 * j + 181434 + 6 ≤ 8118330 by omega⟩ (fun r1 u H1 locs1 hp hP hD hS hz1 hs1 => ?_)
    obtain ⟨hC1, hL1⟩ := hp
    refine W.tight (cells2 := u.2.1 + 1000 * (j + 1) + 125) (slots2 := u.2.2.1 + 9000 * (j + 1) + 181434) (by omega) (by omega) ?_
    have hbd1 := hC1.bd
    refine lv_istore hx hb dL_law_483 hl (by decide) rfl (fun ls (hl : lv_has ls _ ([(5, .int r1), (4, .int (nI (6 * j))), (3, .ref o), (2, .ref h2), (1, .ref h1), (0, .ref b)])) => ?_)
    refine lv_aload_n hx hb dL_law_485 rfl (lv_at hl 3 rfl) ?_
    refine lw_arg hx hb hX hbl hbA hS (lv_at hl 5 rfl) (lv_at hl 1 rfl) 1 (by omega) hLs (by decide) dL_law_486 dL_law_487 dL_law_489 dL_law_490 dL_law_491 ?_
    refine lw_arg hx hb hX hbl hbA hS (lv_at hl 5 rfl) (lv_at hl 1 rfl) 2 (by omega) hLs (by decide) dL_law_492 dL_law_493 dL_law_495 dL_law_496 dL_law_497 ?_
    refine lw_arg hx hb hX hbl hbA hS (lv_at hl 5 rfl) (lv_at hl 1 rfl) 3 (by omega) hLs (by decide) dL_law_498 dL_law_499 dL_law_501 dL_law_502 dL_law_503 ?_
    refine lv_if_eq (tgt := 511) hx hb dL_law_504 (by decide) (fun _ => ?_) (fun c9 => absurd hc9 c9)
    refine lv_iconst (v := 0) hx hb dL_law_511 (by decide) ?_
    refine lawR_i (y := yX12_goal) (ws := wsRX12_goal) (mc := 0) (ms := 0) (As := [.int (xs (6 * j + 1)), .int (xs (6 * j + 2)), .int 0]) (rest := []) ⟨hx, hb, hml, hown, hts⟩ (R_goal l dC dI kv h2 T th v (xs (6 * j + 1)) (xs (6 * j + 2)) (0) hR H1.size) (cwV 3 hts gl_R_goal rfl rfl rfl (by decide +kernel) ⟨Nat.le_of_ble_eq_true rfl, Nat.le_of_ble_eq_true rfl⟩) hR.recv hKV hT9 hA hP hD hS rfl hl.1 (lv_room (Nat.le_of_ble_eq_true rfl)) dL_law_512 ⟨show u.2.1 + 1000 * (j + 1) + 125 + 0 ≤ 327717 by omega, show u.2.2.1 + 9000 * (j + 1) + 181434 + 0 ≤ 8118330 by omega⟩ (fun r2 u2 H2 locs2 hp2 hP hD hS => ?_)
    obtain ⟨hR2, hT2⟩ := hp2
    refine lv_istore hx hb dL_law_515 hl (by decide) rfl (fun ls (hl : lv_has ls _ ([(6, .int r2), (5, .int r1), (4, .int (nI (6 * j))), (3, .ref o), (2, .ref h2), (1, .ref h1), (0, .ref b)])) => ?_)
    refine lv_goto (tgt := 1507) hx hb dL_law_517 (by decide) ?_
    refine W.known (fun z1 z2 => ?_)
    have hTT : (((((u2.1.1 : Nat) : Int), u2.1.2) : LT) = u.1 ∧ u2.1.1 ≤ 20 * (j + 1)) := ⟨by rw [hL1, hT2] <;> rfl, by rw [hT2]; first | omega | (dsimp only; omega)⟩
    exact hgo H2 locs2 ls _ _ ⟨u2.1, u2.2.1, u.2.1, u.2.2.1, u.2.2.2.1, u2.2.2, u.2.2.2.2, by rw [hTT.1]; exact hC1, hR2, hTT.2, hP, hD, hS, by omega, by omega⟩ (lv_sub hl [2, 3, 4, 5, 6] rfl)
  · refine lv_iconst (v := 1) hx hb dL_law_474 (by decide) ?_
    refine lv_goto (tgt := 479) hx hb dL_law_475 (by decide) ?_
    refine lv_aload_n hx hb dL_law_479 rfl (lv_at hl 1 rfl) ?_
    refine lawH_i (y := yL_goal) (ws := wsH_goal) (mc := 1) (ms := 6) (As := [.ref h1, .int (xs (6 * j + 1)), .int (xs (6 * j + 2)), .int 1, .ref o]) (rest := []) ⟨hx, hb, hml, hown, hts⟩ (H_goal l hst dC dI kX kT kM kV kC kN kJ kL kF kO kQ kG kw h1 (((T.1 : Nat) : Int), T.2) Fc Fs w (xs (6 * j + 1)) (xs (6 * j + 2)) 1 o kR g hC H.size) (vx_cwSW 5 hts gl_H_goal rfl rfl rfl (by decide +kernel) ⟨Nat.le_of_ble_eq_true rfl, Nat.le_of_ble_eq_true rfl⟩) (hKR.app hKC) hE hNc hA hP hD hS rfl hl.1 (lv_room (Nat.le_of_ble_eq_true rfl)) dL_law_480 ⟨show Fc + 1000 * j + 125 + 1 ≤ 327717 by omega, show Fs + 9000 * j + 181434 + 6 ≤ 8118330 by omega⟩ (fun r1 u H1 locs1 hp hP hD hS hz1 hs1 => ?_)
    obtain ⟨hC1, hL1⟩ := hp
    refine W.tight (cells2 := u.2.1 + 1000 * (j + 1) + 125) (slots2 := u.2.2.1 + 9000 * (j + 1) + 181434) (by omega) (by omega) ?_
    have hbd1 := hC1.bd
    refine lv_istore hx hb dL_law_483 hl (by decide) rfl (fun ls (hl : lv_has ls _ ([(5, .int r1), (4, .int (nI (6 * j))), (3, .ref o), (2, .ref h2), (1, .ref h1), (0, .ref b)])) => ?_)
    refine lv_aload_n hx hb dL_law_485 rfl (lv_at hl 3 rfl) ?_
    refine lw_arg hx hb hX hbl hbA hS (lv_at hl 5 rfl) (lv_at hl 1 rfl) 1 (by omega) hLs (by decide) dL_law_486 dL_law_487 dL_law_489 dL_law_490 dL_law_491 ?_
    refine lw_arg hx hb hX hbl hbA hS (lv_at hl 5 rfl) (lv_at hl 1 rfl) 2 (by omega) hLs (by decide) dL_law_492 dL_law_493 dL_law_495 dL_law_496 dL_law_497 ?_
    refine lw_arg hx hb hX hbl hbA hS (lv_at hl 5 rfl) (lv_at hl 1 rfl) 3 (by omega) hLs (by decide) dL_law_498 dL_law_499 dL_law_501 dL_law_502 dL_law_503 ?_
    refine lv_if_eq (tgt := 511) hx hb dL_law_504 (by decide) (fun c9 => absurd c9 hc9) (fun _ => ?_)
    refine lv_iconst (v := 1) hx hb dL_law_507 (by decide) ?_
    refine lv_goto (tgt := 512) hx hb dL_law_508 (by decide) ?_
    refine lawR_i (y := yX12_goal) (ws := wsRX12_goal) (mc := 0) (ms := 0) (As := [.int (xs (6 * j + 1)), .int (xs (6 * j + 2)), .int 1]) (rest := []) ⟨hx, hb, hml, hown, hts⟩ (R_goal l dC dI kv h2 T th v (xs (6 * j + 1)) (xs (6 * j + 2)) (1) hR H1.size) (cwV 3 hts gl_R_goal rfl rfl rfl (by decide +kernel) ⟨Nat.le_of_ble_eq_true rfl, Nat.le_of_ble_eq_true rfl⟩) hR.recv hKV hT9 hA hP hD hS rfl hl.1 (lv_room (Nat.le_of_ble_eq_true rfl)) dL_law_512 ⟨show u.2.1 + 1000 * (j + 1) + 125 + 0 ≤ 327717 by omega, show u.2.2.1 + 9000 * (j + 1) + 181434 + 0 ≤ 8118330 by omega⟩ (fun r2 u2 H2 locs2 hp2 hP hD hS => ?_)
    obtain ⟨hR2, hT2⟩ := hp2
    refine lv_istore hx hb dL_law_515 hl (by decide) rfl (fun ls (hl : lv_has ls _ ([(6, .int r2), (5, .int r1), (4, .int (nI (6 * j))), (3, .ref o), (2, .ref h2), (1, .ref h1), (0, .ref b)])) => ?_)
    refine lv_goto (tgt := 1507) hx hb dL_law_517 (by decide) ?_
    refine W.known (fun z1 z2 => ?_)
    have hTT : (((((u2.1.1 : Nat) : Int), u2.1.2) : LT) = u.1 ∧ u2.1.1 ≤ 20 * (j + 1)) := ⟨by rw [hL1, hT2] <;> rfl, by rw [hT2]; first | omega | (dsimp only; omega)⟩
    exact hgo H2 locs2 ls _ _ ⟨u2.1, u2.2.1, u.2.1, u.2.2.1, u.2.2.2.1, u2.2.2, u.2.2.2.2, by rw [hTT.1]; exact hC1, hR2, hTT.2, hP, hD, hS, by omega, by omega⟩ (lv_sub hl [2, 3, 4, 5, 6] rfl)
set_option maxHeartbeats 4000000 in
set_option maxRecDepth 100000 in
/-- the law's case 8: write -/
theorem lc_8 {p : Program} {e : Env} {s : State} {m : MethodId} {below : List Frame} {meth : Method} {c : Code} (l : Launch) (hst : l.stackTraces = false) {b Ls : Nat} {xs : Nat → Int32} (hLs : Ls ≤ 384) (C0 : lw_At p s m meth c b Ls xs) {A : Nat → Prop} (dC : Nat → ClassId) (dI : Nat → Nat → Nat) (kX : Nat → ClassId) (kT : Nat → ClassId) (kM : Nat → ClassId) (kV : Nat → ClassId) (kC : Nat → ClassId) (kN : Nat → ClassId) (kJ : Nat → ClassId) (kL : Nat → ClassId) (kF : Nat → ClassId) (kO : Nat → ClassId) (kQ : Nat → ClassId) (kG : Nat → ClassId) (kw : ClassId) (kv : Nat → ClassId) (kR : ClassId) (E0 : LwC dC dI kX kT kM kV kC kN kJ kL kF kO kQ kG kw kv kR A s) {h1 h2 o j : Nat} (hj : 6 * j + 6 ≤ Ls) {H : Heap} {locs : List Loc} {ls : Array Slot} {cells slots : Nat} (hI : LwI dC dI kX kT kM kV kC kN kJ kL kF kO kQ kG kw kv kR A s h1 h2 o j H locs) (hl : lv_has ls 7 [(4, .int (nI (6 * j))), (3, .ref o), (2, .ref h2), (1, .ref h1), (0, .ref b)])
    (hgo : ∀ (H : Heap) (locs : List Loc) (ls : Array Slot) (cells slots : Nat), LwI dC dI kX kT kM kV kC kN kJ kL kF kO kQ kG kw kv kR A s h1 h2 o (j + 1) H locs → lv_has ls 7 [(4, .int (nI (6 * j))), (3, .ref o), (2, .ref h2), (1, .ref h1), (0, .ref b)] → W p l e room_1 s m #[Value.ref b] below meth c H locs cells slots (lw_Z below #[Value.ref b] s) (F0 m 1507 ls [])) : W p l e room_1 s m #[Value.ref b] below meth c H locs cells slots (lw_Z below #[Value.ref b] s) (F0 m 520 ls []) := by
  obtain ⟨hx, hb, hr, hml, hown, hts, hX, hbl, hlocks, hgv⟩ := id C0
  have hb : c.code = cL_law := hb
  have hown : s.vm.findClass RL = some m.cls := hown
  obtain ⟨hA, hA2, hE, hT9, hNc, hKC, hKV, hKR⟩ := E0
  have hbA : ¬ A b := fun h => absurd (hA2 b h) (Nat.not_le.mpr hbl)
  obtain ⟨T, th, Fc, Fs, w, v, g, hC, hR, hT, hP, hD, hS, hz, hn⟩ := hI
  have hbd := hC.bd
  refine W.tight (cells2 := Fc + 1000 * j + 125) (slots2 := Fs + 9000 * j + 181434) hz hn ?_
  refine lv_aload_n hx hb dL_law_520 rfl (lv_at hl 3 rfl) ?_
  refine lv_aload_n hx hb dL_law_521 rfl (lv_at hl 1 rfl) ?_
  refine lawH_i (y := yL_write) (ws := wsH_write) (mc := 13126) (ms := 900000) (As := [.ref h1, .ref o]) (rest := []) ⟨hx, hb, hml, hown, hts⟩ (H_write l hst dC dI kX kT kM kV kC kN kJ kL kF kO kQ kG kw h1 (((T.1 : Nat) : Int), T.2) Fc Fs w o kR g hC H.size) (vx_cwSW 2 hts gl_H_write rfl rfl rfl (by decide +kernel) ⟨Nat.le_of_ble_eq_true rfl, Nat.le_of_ble_eq_true rfl⟩) (hKR.app hKC) hE hNc hA hP hD hS rfl hl.1 (lv_room (Nat.le_of_ble_eq_true rfl)) dL_law_522 ⟨show Fc + 1000 * j + 125 + 13126 ≤ 327717 by omega, show Fs + 9000 * j + 181434 + 900000 ≤ 8118330 by omega⟩ (fun r1 u H1 locs1 hp hP hD hS hz1 hs1 => ?_)
  obtain ⟨hC1, hL1⟩ := hp
  refine W.tight (cells2 := u.2.1 + 1000 * (j + 1) + 125) (slots2 := u.2.2.1 + 9000 * (j + 1) + 181434) (by omega) (by omega) ?_
  have hbd1 := hC1.bd
  refine lv_istore hx hb dL_law_525 hl (by decide) rfl (fun ls (hl : lv_has ls _ ([(5, .int r1), (4, .int (nI (6 * j))), (3, .ref o), (2, .ref h2), (1, .ref h1), (0, .ref b)])) => ?_)
  refine lv_aload_n hx hb dL_law_527 rfl (lv_at hl 3 rfl) ?_
  refine lawR_i (y := yX12_write) (ws := wsRX12_write) (mc := 0) (ms := 0) (As := []) (rest := []) ⟨hx, hb, hml, hown, hts⟩ (R_write l dC dI kv h2 T th v hR H1.size) (cwV 0 hts gl_R_write rfl rfl rfl (by decide +kernel) ⟨Nat.le_of_ble_eq_true rfl, Nat.le_of_ble_eq_true rfl⟩) hR.recv hKV hT9 hA hP hD hS rfl hl.1 (lv_room (Nat.le_of_ble_eq_true rfl)) dL_law_528 ⟨show u.2.1 + 1000 * (j + 1) + 125 + 0 ≤ 327717 by omega, show u.2.2.1 + 9000 * (j + 1) + 181434 + 0 ≤ 8118330 by omega⟩ (fun r2 u2 H2 locs2 hp2 hP hD hS => ?_)
  obtain ⟨hR2, hT2⟩ := hp2
  refine lv_istore hx hb dL_law_531 hl (by decide) rfl (fun ls (hl : lv_has ls _ ([(6, .int r2), (5, .int r1), (4, .int (nI (6 * j))), (3, .ref o), (2, .ref h2), (1, .ref h1), (0, .ref b)])) => ?_)
  refine lv_goto (tgt := 1507) hx hb dL_law_533 (by decide) ?_
  refine W.known (fun z1 z2 => ?_)
  have hTT : (((((u2.1.1 : Nat) : Int), u2.1.2) : LT) = u.1 ∧ u2.1.1 ≤ 20 * (j + 1)) := ⟨by rw [hL1, hT2] <;> rfl, by rw [hT2]; first | omega | (dsimp only; omega)⟩
  exact hgo H2 locs2 ls _ _ ⟨u2.1, u2.2.1, u.2.1, u.2.2.1, u.2.2.2.1, u2.2.2, u.2.2.2.2, by rw [hTT.1]; exact hC1, hR2, hTT.2, hP, hD, hS, by omega, by omega⟩ (lv_sub hl [2, 3, 4, 5, 6] rfl)
set_option maxHeartbeats 4000000 in
set_option maxRecDepth 100000 in
/-- the law's case 9: solve -/
theorem lc_9 {p : Program} {e : Env} {s : State} {m : MethodId} {below : List Frame} {meth : Method} {c : Code} (l : Launch) (hst : l.stackTraces = false) {b Ls : Nat} {xs : Nat → Int32} (hLs : Ls ≤ 384) (C0 : lw_At p s m meth c b Ls xs) {A : Nat → Prop} (dC : Nat → ClassId) (dI : Nat → Nat → Nat) (kX : Nat → ClassId) (kT : Nat → ClassId) (kM : Nat → ClassId) (kV : Nat → ClassId) (kC : Nat → ClassId) (kN : Nat → ClassId) (kJ : Nat → ClassId) (kL : Nat → ClassId) (kF : Nat → ClassId) (kO : Nat → ClassId) (kQ : Nat → ClassId) (kG : Nat → ClassId) (kw : ClassId) (kv : Nat → ClassId) (kR : ClassId) (E0 : LwC dC dI kX kT kM kV kC kN kJ kL kF kO kQ kG kw kv kR A s) {h1 h2 o j : Nat} (hj : 6 * j + 6 ≤ Ls) {H : Heap} {locs : List Loc} {ls : Array Slot} {cells slots : Nat} (hI : LwI dC dI kX kT kM kV kC kN kJ kL kF kO kQ kG kw kv kR A s h1 h2 o j H locs) (hl : lv_has ls 7 [(4, .int (nI (6 * j))), (3, .ref o), (2, .ref h2), (1, .ref h1), (0, .ref b)])
    (hgo : ∀ (H : Heap) (locs : List Loc) (ls : Array Slot) (cells slots : Nat), LwI dC dI kX kT kM kV kC kN kJ kL kF kO kQ kG kw kv kR A s h1 h2 o (j + 1) H locs → lv_has ls 7 [(4, .int (nI (6 * j))), (3, .ref o), (2, .ref h2), (1, .ref h1), (0, .ref b)] → W p l e room_1 s m #[Value.ref b] below meth c H locs cells slots (lw_Z below #[Value.ref b] s) (F0 m 1507 ls [])) : W p l e room_1 s m #[Value.ref b] below meth c H locs cells slots (lw_Z below #[Value.ref b] s) (F0 m 536 ls []) := by
  obtain ⟨hx, hb, hr, hml, hown, hts, hX, hbl, hlocks, hgv⟩ := id C0
  have hb : c.code = cL_law := hb
  have hown : s.vm.findClass RL = some m.cls := hown
  obtain ⟨hA, hA2, hE, hT9, hNc, hKC, hKV, hKR⟩ := E0
  have hbA : ¬ A b := fun h => absurd (hA2 b h) (Nat.not_le.mpr hbl)
  obtain ⟨T, th, Fc, Fs, w, v, g, hC, hR, hT, hP, hD, hS, hz, hn⟩ := hI
  have hbd := hC.bd
  refine W.tight (cells2 := Fc + 1000 * j + 125) (slots2 := Fs + 9000 * j + 181434) hz hn ?_
  refine lv_aload_n hx hb dL_law_536 rfl (lv_at hl 3 rfl) ?_
  refine lw_arg hx hb hX hbl hbA hS (lv_at hl 4 rfl) (lv_at hl 0 rfl) 1 (by omega) hLs (by decide) dL_law_537 dL_law_538 dL_law_540 dL_law_541 dL_law_542 ?_
  refine lv_if_eq (tgt := 550) hx hb dL_law_543 (by decide) (fun hc9 => ?_) (fun hc9 => ?_)
  · refine lv_iconst (v := 0) hx hb dL_law_550 (by decide) ?_
    refine lv_aload_n hx hb dL_law_551 rfl (lv_at hl 1 rfl) ?_
    refine lawH_i (y := yL_solve) (ws := wsH_solve) (mc := 880) (ms := 8040) (As := [.ref h1, .int 0, .ref o]) (rest := []) ⟨hx, hb, hml, hown, hts⟩ (H_solve l hst dC dI kX kT kM kV kC kN kJ kL kF kO kQ kG kw h1 (((T.1 : Nat) : Int), T.2) Fc Fs w 0 o kR g hC (by decide) H.size) (vx_cwSW 3 hts gl_H_solve rfl rfl rfl (by decide +kernel) ⟨Nat.le_of_ble_eq_true rfl, Nat.le_of_ble_eq_true rfl⟩) (hKR.app hKC) hE hNc hA hP hD hS rfl hl.1 (lv_room (Nat.le_of_ble_eq_true rfl)) dL_law_552 ⟨show Fc + 1000 * j + 125 + 880 ≤ 327717 by omega, show Fs + 9000 * j + 181434 + 8040 ≤ 8118330 by omega⟩ (fun r1 u H1 locs1 hp hP hD hS hz1 hs1 => ?_)
    obtain ⟨hC1, hL1⟩ := hp
    refine W.tight (cells2 := u.2.1 + 1000 * (j + 1) + 125) (slots2 := u.2.2.1 + 9000 * (j + 1) + 181434) (by omega) (by omega) ?_
    have hbd1 := hC1.bd
    refine lv_istore hx hb dL_law_555 hl (by decide) rfl (fun ls (hl : lv_has ls _ ([(5, .int r1), (4, .int (nI (6 * j))), (3, .ref o), (2, .ref h2), (1, .ref h1), (0, .ref b)])) => ?_)
    refine lv_aload_n hx hb dL_law_557 rfl (lv_at hl 3 rfl) ?_
    refine lw_arg hx hb hX hbl hbA hS (lv_at hl 5 rfl) (lv_at hl 1 rfl) 1 (by omega) hLs (by decide) dL_law_558 dL_law_559 dL_law_561 dL_law_562 dL_law_563 ?_
    refine lv_if_eq (tgt := 571) hx hb dL_law_564 (by decide) (fun _ => ?_) (fun c9 => absurd hc9 c9)
    refine lv_iconst (v := 0) hx hb dL_law_571 (by decide) ?_
    refine lawR_i (y := yX12_solve) (ws := wsRX12_solve) (mc := 0) (ms := 0) (As := [.int 0]) (rest := []) ⟨hx, hb, hml, hown, hts⟩ (R_solve l dC dI kv h2 T th v (0) hR H1.size) (cwV 1 hts gl_R_solve rfl rfl rfl (by decide +kernel) ⟨Nat.le_of_ble_eq_true rfl, Nat.le_of_ble_eq_true rfl⟩) hR.recv hKV hT9 hA hP hD hS rfl hl.1 (lv_room (Nat.le_of_ble_eq_true rfl)) dL_law_572 ⟨show u.2.1 + 1000 * (j + 1) + 125 + 0 ≤ 327717 by omega, show u.2.2.1 + 9000 * (j + 1) + 181434 + 0 ≤ 8118330 by omega⟩ (fun r2 u2 H2 locs2 hp2 hP hD hS => ?_)
    obtain ⟨hR2, hT2⟩ := hp2
    refine lv_istore hx hb dL_law_575 hl (by decide) rfl (fun ls (hl : lv_has ls _ ([(6, .int r2), (5, .int r1), (4, .int (nI (6 * j))), (3, .ref o), (2, .ref h2), (1, .ref h1), (0, .ref b)])) => ?_)
    refine lv_goto (tgt := 1507) hx hb dL_law_577 (by decide) ?_
    refine W.known (fun z1 z2 => ?_)
    have hTT : (((((u2.1.1 : Nat) : Int), u2.1.2) : LT) = u.1 ∧ u2.1.1 ≤ 20 * (j + 1)) := ⟨by rw [hL1, hT2] <;> rfl, by rw [hT2]; first | omega | (dsimp only; omega)⟩
    exact hgo H2 locs2 ls _ _ ⟨u2.1, u2.2.1, u.2.1, u.2.2.1, u.2.2.2.1, u2.2.2, u.2.2.2.2, by rw [hTT.1]; exact hC1, hR2, hTT.2, hP, hD, hS, by omega, by omega⟩ (lv_sub hl [2, 3, 4, 5, 6] rfl)
  · refine lv_iconst (v := 1) hx hb dL_law_546 (by decide) ?_
    refine lv_goto (tgt := 551) hx hb dL_law_547 (by decide) ?_
    refine lv_aload_n hx hb dL_law_551 rfl (lv_at hl 1 rfl) ?_
    refine lawH_i (y := yL_solve) (ws := wsH_solve) (mc := 880) (ms := 8040) (As := [.ref h1, .int 1, .ref o]) (rest := []) ⟨hx, hb, hml, hown, hts⟩ (H_solve l hst dC dI kX kT kM kV kC kN kJ kL kF kO kQ kG kw h1 (((T.1 : Nat) : Int), T.2) Fc Fs w 1 o kR g hC (by decide) H.size) (vx_cwSW 3 hts gl_H_solve rfl rfl rfl (by decide +kernel) ⟨Nat.le_of_ble_eq_true rfl, Nat.le_of_ble_eq_true rfl⟩) (hKR.app hKC) hE hNc hA hP hD hS rfl hl.1 (lv_room (Nat.le_of_ble_eq_true rfl)) dL_law_552 ⟨show Fc + 1000 * j + 125 + 880 ≤ 327717 by omega, show Fs + 9000 * j + 181434 + 8040 ≤ 8118330 by omega⟩ (fun r1 u H1 locs1 hp hP hD hS hz1 hs1 => ?_)
    obtain ⟨hC1, hL1⟩ := hp
    refine W.tight (cells2 := u.2.1 + 1000 * (j + 1) + 125) (slots2 := u.2.2.1 + 9000 * (j + 1) + 181434) (by omega) (by omega) ?_
    have hbd1 := hC1.bd
    refine lv_istore hx hb dL_law_555 hl (by decide) rfl (fun ls (hl : lv_has ls _ ([(5, .int r1), (4, .int (nI (6 * j))), (3, .ref o), (2, .ref h2), (1, .ref h1), (0, .ref b)])) => ?_)
    refine lv_aload_n hx hb dL_law_557 rfl (lv_at hl 3 rfl) ?_
    refine lw_arg hx hb hX hbl hbA hS (lv_at hl 5 rfl) (lv_at hl 1 rfl) 1 (by omega) hLs (by decide) dL_law_558 dL_law_559 dL_law_561 dL_law_562 dL_law_563 ?_
    refine lv_if_eq (tgt := 571) hx hb dL_law_564 (by decide) (fun c9 => absurd c9 hc9) (fun _ => ?_)
    refine lv_iconst (v := 1) hx hb dL_law_567 (by decide) ?_
    refine lv_goto (tgt := 572) hx hb dL_law_568 (by decide) ?_
    refine lawR_i (y := yX12_solve) (ws := wsRX12_solve) (mc := 0) (ms := 0) (As := [.int 1]) (rest := []) ⟨hx, hb, hml, hown, hts⟩ (R_solve l dC dI kv h2 T th v (1) hR H1.size) (cwV 1 hts gl_R_solve rfl rfl rfl (by decide +kernel) ⟨Nat.le_of_ble_eq_true rfl, Nat.le_of_ble_eq_true rfl⟩) hR.recv hKV hT9 hA hP hD hS rfl hl.1 (lv_room (Nat.le_of_ble_eq_true rfl)) dL_law_572 ⟨show u.2.1 + 1000 * (j + 1) + 125 + 0 ≤ 327717 by omega, show u.2.2.1 + 9000 * (j + 1) + 181434 + 0 ≤ 8118330 by omega⟩ (fun r2 u2 H2 locs2 hp2 hP hD hS => ?_)
    obtain ⟨hR2, hT2⟩ := hp2
    refine lv_istore hx hb dL_law_575 hl (by decide) rfl (fun ls (hl : lv_has ls _ ([(6, .int r2), (5, .int r1), (4, .int (nI (6 * j))), (3, .ref o), (2, .ref h2), (1, .ref h1), (0, .ref b)])) => ?_)
    refine lv_goto (tgt := 1507) hx hb dL_law_577 (by decide) ?_
    refine W.known (fun z1 z2 => ?_)
    have hTT : (((((u2.1.1 : Nat) : Int), u2.1.2) : LT) = u.1 ∧ u2.1.1 ≤ 20 * (j + 1)) := ⟨by rw [hL1, hT2] <;> rfl, by rw [hT2]; first | omega | (dsimp only; omega)⟩
    exact hgo H2 locs2 ls _ _ ⟨u2.1, u2.2.1, u.2.1, u.2.2.1, u.2.2.2.1, u2.2.2, u.2.2.2.2, by rw [hTT.1]; exact hC1, hR2, hTT.2, hP, hD, hS, by omega, by omega⟩ (lv_sub hl [2, 3, 4, 5, 6] rfl)
set_option maxHeartbeats 4000000 in
set_option maxRecDepth 100000 in
/-- the law's case 10: value -/
theorem lc_10 {p : Program} {e : Env} {s : State} {m : MethodId} {below : List Frame} {meth : Method} {c : Code} (l : Launch) (hst : l.stackTraces = false) {b Ls : Nat} {xs : Nat → Int32} (hLs : Ls ≤ 384) (C0 : lw_At p s m meth c b Ls xs) {A : Nat → Prop} (dC : Nat → ClassId) (dI : Nat → Nat → Nat) (kX : Nat → ClassId) (kT : Nat → ClassId) (kM : Nat → ClassId) (kV : Nat → ClassId) (kC : Nat → ClassId) (kN : Nat → ClassId) (kJ : Nat → ClassId) (kL : Nat → ClassId) (kF : Nat → ClassId) (kO : Nat → ClassId) (kQ : Nat → ClassId) (kG : Nat → ClassId) (kw : ClassId) (kv : Nat → ClassId) (kR : ClassId) (E0 : LwC dC dI kX kT kM kV kC kN kJ kL kF kO kQ kG kw kv kR A s) {h1 h2 o j : Nat} (hj : 6 * j + 6 ≤ Ls) {H : Heap} {locs : List Loc} {ls : Array Slot} {cells slots : Nat} (hI : LwI dC dI kX kT kM kV kC kN kJ kL kF kO kQ kG kw kv kR A s h1 h2 o j H locs) (hl : lv_has ls 7 [(4, .int (nI (6 * j))), (3, .ref o), (2, .ref h2), (1, .ref h1), (0, .ref b)])
    (hgo : ∀ (H : Heap) (locs : List Loc) (ls : Array Slot) (cells slots : Nat), LwI dC dI kX kT kM kV kC kN kJ kL kF kO kQ kG kw kv kR A s h1 h2 o (j + 1) H locs → lv_has ls 7 [(4, .int (nI (6 * j))), (3, .ref o), (2, .ref h2), (1, .ref h1), (0, .ref b)] → W p l e room_1 s m #[Value.ref b] below meth c H locs cells slots (lw_Z below #[Value.ref b] s) (F0 m 1507 ls [])) : W p l e room_1 s m #[Value.ref b] below meth c H locs cells slots (lw_Z below #[Value.ref b] s) (F0 m 580 ls []) := by
  obtain ⟨hx, hb, hr, hml, hown, hts, hX, hbl, hlocks, hgv⟩ := id C0
  have hb : c.code = cL_law := hb
  have hown : s.vm.findClass RL = some m.cls := hown
  obtain ⟨hA, hA2, hE, hT9, hNc, hKC, hKV, hKR⟩ := E0
  have hbA : ¬ A b := fun h => absurd (hA2 b h) (Nat.not_le.mpr hbl)
  obtain ⟨T, th, Fc, Fs, w, v, g, hC, hR, hT, hP, hD, hS, hz, hn⟩ := hI
  have hbd := hC.bd
  refine W.tight (cells2 := Fc + 1000 * j + 125) (slots2 := Fs + 9000 * j + 181434) hz hn ?_
  refine lv_aload_n hx hb dL_law_580 rfl (lv_at hl 3 rfl) ?_
  refine lw_arg hx hb hX hbl hbA hS (lv_at hl 4 rfl) (lv_at hl 0 rfl) 1 (by omega) hLs (by decide) dL_law_581 dL_law_582 dL_law_584 dL_law_585 dL_law_586 ?_
  refine lv_aload_n hx hb dL_law_587 rfl (lv_at hl 1 rfl) ?_
  refine lawH_i (y := yL_value) (ws := wsH_value) (mc := 7501) (ms := 540000) (As := [.ref h1, .int (xs (6 * j + 1)), .ref o]) (rest := []) ⟨hx, hb, hml, hown, hts⟩ (H_value l hst dC dI kX kT kM kV kC kN kJ kL kF kO kQ kG kw h1 (((T.1 : Nat) : Int), T.2) Fc Fs w (xs (6 * j + 1)) o kR g hC H.size) (vx_cwSW 3 hts gl_H_value rfl rfl rfl (by decide +kernel) ⟨Nat.le_of_ble_eq_true rfl, Nat.le_of_ble_eq_true rfl⟩) (hKR.app hKC) hE hNc hA hP hD hS rfl hl.1 (lv_room (Nat.le_of_ble_eq_true rfl)) dL_law_588 ⟨show Fc + 1000 * j + 125 + 7501 ≤ 327717 by omega, show Fs + 9000 * j + 181434 + 540000 ≤ 8118330 by omega⟩ (fun r1 u H1 locs1 hp hP hD hS hz1 hs1 => ?_)
  obtain ⟨hC1, hL1⟩ := hp
  refine W.tight (cells2 := u.2.1 + 1000 * (j + 1) + 125) (slots2 := u.2.2.1 + 9000 * (j + 1) + 181434) (by omega) (by omega) ?_
  have hbd1 := hC1.bd
  refine lv_istore hx hb dL_law_591 hl (by decide) rfl (fun ls (hl : lv_has ls _ ([(5, .int r1), (4, .int (nI (6 * j))), (3, .ref o), (2, .ref h2), (1, .ref h1), (0, .ref b)])) => ?_)
  refine lv_aload_n hx hb dL_law_593 rfl (lv_at hl 3 rfl) ?_
  refine lw_arg hx hb hX hbl hbA hS (lv_at hl 5 rfl) (lv_at hl 1 rfl) 1 (by omega) hLs (by decide) dL_law_594 dL_law_595 dL_law_597 dL_law_598 dL_law_599 ?_
  refine lawR_i (y := yX12_value) (ws := wsRX12_value) (mc := 0) (ms := 0) (As := [.int (xs (6 * j + 1))]) (rest := []) ⟨hx, hb, hml, hown, hts⟩ (R_value l dC dI kv h2 T th v (xs (6 * j + 1)) hR H1.size) (cwV 1 hts gl_R_value rfl rfl rfl (by decide +kernel) ⟨Nat.le_of_ble_eq_true rfl, Nat.le_of_ble_eq_true rfl⟩) hR.recv hKV hT9 hA hP hD hS rfl hl.1 (lv_room (Nat.le_of_ble_eq_true rfl)) dL_law_600 ⟨show u.2.1 + 1000 * (j + 1) + 125 + 0 ≤ 327717 by omega, show u.2.2.1 + 9000 * (j + 1) + 181434 + 0 ≤ 8118330 by omega⟩ (fun r2 u2 H2 locs2 hp2 hP hD hS => ?_)
  obtain ⟨hR2, hT2⟩ := hp2
  refine lv_istore hx hb dL_law_603 hl (by decide) rfl (fun ls (hl : lv_has ls _ ([(6, .int r2), (5, .int r1), (4, .int (nI (6 * j))), (3, .ref o), (2, .ref h2), (1, .ref h1), (0, .ref b)])) => ?_)
  refine lv_goto (tgt := 1507) hx hb dL_law_605 (by decide) ?_
  refine W.known (fun z1 z2 => ?_)
  have hTT : (((((u2.1.1 : Nat) : Int), u2.1.2) : LT) = u.1 ∧ u2.1.1 ≤ 20 * (j + 1)) := ⟨by rw [hL1, hT2] <;> rfl, by rw [hT2]; first | omega | (dsimp only; omega)⟩
  exact hgo H2 locs2 ls _ _ ⟨u2.1, u2.2.1, u.2.1, u.2.2.1, u.2.2.2.1, u2.2.2, u.2.2.2.2, by rw [hTT.1]; exact hC1, hR2, hTT.2, hP, hD, hS, by omega, by omega⟩ (lv_sub hl [2, 3, 4, 5, 6] rfl)
set_option maxHeartbeats 4000000 in
set_option maxRecDepth 100000 in
/-- the law's case 11: best -/
theorem lc_11 {p : Program} {e : Env} {s : State} {m : MethodId} {below : List Frame} {meth : Method} {c : Code} (l : Launch) (hst : l.stackTraces = false) {b Ls : Nat} {xs : Nat → Int32} (hLs : Ls ≤ 384) (C0 : lw_At p s m meth c b Ls xs) {A : Nat → Prop} (dC : Nat → ClassId) (dI : Nat → Nat → Nat) (kX : Nat → ClassId) (kT : Nat → ClassId) (kM : Nat → ClassId) (kV : Nat → ClassId) (kC : Nat → ClassId) (kN : Nat → ClassId) (kJ : Nat → ClassId) (kL : Nat → ClassId) (kF : Nat → ClassId) (kO : Nat → ClassId) (kQ : Nat → ClassId) (kG : Nat → ClassId) (kw : ClassId) (kv : Nat → ClassId) (kR : ClassId) (E0 : LwC dC dI kX kT kM kV kC kN kJ kL kF kO kQ kG kw kv kR A s) {h1 h2 o j : Nat} (hj : 6 * j + 6 ≤ Ls) {H : Heap} {locs : List Loc} {ls : Array Slot} {cells slots : Nat} (hI : LwI dC dI kX kT kM kV kC kN kJ kL kF kO kQ kG kw kv kR A s h1 h2 o j H locs) (hl : lv_has ls 7 [(4, .int (nI (6 * j))), (3, .ref o), (2, .ref h2), (1, .ref h1), (0, .ref b)])
    (hgo : ∀ (H : Heap) (locs : List Loc) (ls : Array Slot) (cells slots : Nat), LwI dC dI kX kT kM kV kC kN kJ kL kF kO kQ kG kw kv kR A s h1 h2 o (j + 1) H locs → lv_has ls 7 [(4, .int (nI (6 * j))), (3, .ref o), (2, .ref h2), (1, .ref h1), (0, .ref b)] → W p l e room_1 s m #[Value.ref b] below meth c H locs cells slots (lw_Z below #[Value.ref b] s) (F0 m 1507 ls [])) : W p l e room_1 s m #[Value.ref b] below meth c H locs cells slots (lw_Z below #[Value.ref b] s) (F0 m 608 ls []) := by
  obtain ⟨hx, hb, hr, hml, hown, hts, hX, hbl, hlocks, hgv⟩ := id C0
  have hb : c.code = cL_law := hb
  have hown : s.vm.findClass RL = some m.cls := hown
  obtain ⟨hA, hA2, hE, hT9, hNc, hKC, hKV, hKR⟩ := E0
  have hbA : ¬ A b := fun h => absurd (hA2 b h) (Nat.not_le.mpr hbl)
  obtain ⟨T, th, Fc, Fs, w, v, g, hC, hR, hT, hP, hD, hS, hz, hn⟩ := hI
  have hbd := hC.bd
  refine W.tight (cells2 := Fc + 1000 * j + 125) (slots2 := Fs + 9000 * j + 181434) hz hn ?_
  refine lv_aload_n hx hb dL_law_608 rfl (lv_at hl 3 rfl) ?_
  refine lw_arg hx hb hX hbl hbA hS (lv_at hl 4 rfl) (lv_at hl 0 rfl) 1 (by omega) hLs (by decide) dL_law_609 dL_law_610 dL_law_612 dL_law_613 dL_law_614 ?_
  refine lv_aload_n hx hb dL_law_615 rfl (lv_at hl 1 rfl) ?_
  refine lawH_i (y := yL_best) (ws := wsH_best) (mc := 7501) (ms := 540000) (As := [.ref h1, .int (xs (6 * j + 1)), .ref o]) (rest := []) ⟨hx, hb, hml, hown, hts⟩ (H_best l hst dC dI kX kT kM kV kC kN kJ kL kF kO kQ kG kw h1 (((T.1 : Nat) : Int), T.2) Fc Fs w (xs (6 * j + 1)) o kR g hC H.size) (vx_cwSW 3 hts gl_H_best rfl rfl rfl (by decide +kernel) ⟨Nat.le_of_ble_eq_true rfl, Nat.le_of_ble_eq_true rfl⟩) (hKR.app hKC) hE hNc hA hP hD hS rfl hl.1 (lv_room (Nat.le_of_ble_eq_true rfl)) dL_law_616 ⟨show Fc + 1000 * j + 125 + 7501 ≤ 327717 by omega, show Fs + 9000 * j + 181434 + 540000 ≤ 8118330 by omega⟩ (fun r1 u H1 locs1 hp hP hD hS hz1 hs1 => ?_)
  obtain ⟨hC1, hL1⟩ := hp
  refine W.tight (cells2 := u.2.1 + 1000 * (j + 1) + 125) (slots2 := u.2.2.1 + 9000 * (j + 1) + 181434) (by omega) (by omega) ?_
  have hbd1 := hC1.bd
  refine lv_istore hx hb dL_law_619 hl (by decide) rfl (fun ls (hl : lv_has ls _ ([(5, .int r1), (4, .int (nI (6 * j))), (3, .ref o), (2, .ref h2), (1, .ref h1), (0, .ref b)])) => ?_)
  refine lv_aload_n hx hb dL_law_621 rfl (lv_at hl 3 rfl) ?_
  refine lw_arg hx hb hX hbl hbA hS (lv_at hl 5 rfl) (lv_at hl 1 rfl) 1 (by omega) hLs (by decide) dL_law_622 dL_law_623 dL_law_625 dL_law_626 dL_law_627 ?_
  refine lawR_i (y := yX12_best) (ws := wsRX12_best) (mc := 0) (ms := 0) (As := [.int (xs (6 * j + 1))]) (rest := []) ⟨hx, hb, hml, hown, hts⟩ (R_best l dC dI kv h2 T th v (xs (6 * j + 1)) hR H1.size) (cwV 1 hts gl_R_best rfl rfl rfl (by decide +kernel) ⟨Nat.le_of_ble_eq_true rfl, Nat.le_of_ble_eq_true rfl⟩) hR.recv hKV hT9 hA hP hD hS rfl hl.1 (lv_room (Nat.le_of_ble_eq_true rfl)) dL_law_628 ⟨show u.2.1 + 1000 * (j + 1) + 125 + 0 ≤ 327717 by omega, show u.2.2.1 + 9000 * (j + 1) + 181434 + 0 ≤ 8118330 by omega⟩ (fun r2 u2 H2 locs2 hp2 hP hD hS => ?_)
  obtain ⟨hR2, hT2⟩ := hp2
  refine lv_istore hx hb dL_law_631 hl (by decide) rfl (fun ls (hl : lv_has ls _ ([(6, .int r2), (5, .int r1), (4, .int (nI (6 * j))), (3, .ref o), (2, .ref h2), (1, .ref h1), (0, .ref b)])) => ?_)
  refine lv_goto (tgt := 1507) hx hb dL_law_633 (by decide) ?_
  refine W.known (fun z1 z2 => ?_)
  have hTT : (((((u2.1.1 : Nat) : Int), u2.1.2) : LT) = u.1 ∧ u2.1.1 ≤ 20 * (j + 1)) := ⟨by rw [hL1, hT2] <;> rfl, by rw [hT2]; first | omega | (dsimp only; omega)⟩
  exact hgo H2 locs2 ls _ _ ⟨u2.1, u2.2.1, u.2.1, u.2.2.1, u.2.2.2.1, u2.2.2, u.2.2.2.2, by rw [hTT.1]; exact hC1, hR2, hTT.2, hP, hD, hS, by omega, by omega⟩ (lv_sub hl [2, 3, 4, 5, 6] rfl)
set_option maxHeartbeats 4000000 in
set_option maxRecDepth 100000 in
/-- the law's case 12: way -/
theorem lc_12 {p : Program} {e : Env} {s : State} {m : MethodId} {below : List Frame} {meth : Method} {c : Code} (l : Launch) (hst : l.stackTraces = false) {b Ls : Nat} {xs : Nat → Int32} (hLs : Ls ≤ 384) (C0 : lw_At p s m meth c b Ls xs) {A : Nat → Prop} (dC : Nat → ClassId) (dI : Nat → Nat → Nat) (kX : Nat → ClassId) (kT : Nat → ClassId) (kM : Nat → ClassId) (kV : Nat → ClassId) (kC : Nat → ClassId) (kN : Nat → ClassId) (kJ : Nat → ClassId) (kL : Nat → ClassId) (kF : Nat → ClassId) (kO : Nat → ClassId) (kQ : Nat → ClassId) (kG : Nat → ClassId) (kw : ClassId) (kv : Nat → ClassId) (kR : ClassId) (E0 : LwC dC dI kX kT kM kV kC kN kJ kL kF kO kQ kG kw kv kR A s) {h1 h2 o j : Nat} (hj : 6 * j + 6 ≤ Ls) {H : Heap} {locs : List Loc} {ls : Array Slot} {cells slots : Nat} (hI : LwI dC dI kX kT kM kV kC kN kJ kL kF kO kQ kG kw kv kR A s h1 h2 o j H locs) (hl : lv_has ls 7 [(4, .int (nI (6 * j))), (3, .ref o), (2, .ref h2), (1, .ref h1), (0, .ref b)])
    (hgo : ∀ (H : Heap) (locs : List Loc) (ls : Array Slot) (cells slots : Nat), LwI dC dI kX kT kM kV kC kN kJ kL kF kO kQ kG kw kv kR A s h1 h2 o (j + 1) H locs → lv_has ls 7 [(4, .int (nI (6 * j))), (3, .ref o), (2, .ref h2), (1, .ref h1), (0, .ref b)] → W p l e room_1 s m #[Value.ref b] below meth c H locs cells slots (lw_Z below #[Value.ref b] s) (F0 m 1507 ls [])) : W p l e room_1 s m #[Value.ref b] below meth c H locs cells slots (lw_Z below #[Value.ref b] s) (F0 m 636 ls []) := by
  obtain ⟨hx, hb, hr, hml, hown, hts, hX, hbl, hlocks, hgv⟩ := id C0
  have hb : c.code = cL_law := hb
  have hown : s.vm.findClass RL = some m.cls := hown
  obtain ⟨hA, hA2, hE, hT9, hNc, hKC, hKV, hKR⟩ := E0
  have hbA : ¬ A b := fun h => absurd (hA2 b h) (Nat.not_le.mpr hbl)
  obtain ⟨T, th, Fc, Fs, w, v, g, hC, hR, hT, hP, hD, hS, hz, hn⟩ := hI
  have hbd := hC.bd
  refine W.tight (cells2 := Fc + 1000 * j + 125) (slots2 := Fs + 9000 * j + 181434) hz hn ?_
  refine lv_aload_n hx hb dL_law_636 rfl (lv_at hl 3 rfl) ?_
  refine lw_arg hx hb hX hbl hbA hS (lv_at hl 4 rfl) (lv_at hl 0 rfl) 1 (by omega) hLs (by decide) dL_law_637 dL_law_638 dL_law_640 dL_law_641 dL_law_642 ?_
  refine lv_aload_n hx hb dL_law_643 rfl (lv_at hl 1 rfl) ?_
  refine lawH_i (y := yL_way) (ws := wsH_way) (mc := 1) (ms := 6) (As := [.ref h1, .int (xs (6 * j + 1)), .ref o]) (rest := []) ⟨hx, hb, hml, hown, hts⟩ (H_way l hst dC dI kX kT kM kV kC kN kJ kL kF kO kQ kG kw h1 (((T.1 : Nat) : Int), T.2) Fc Fs w (xs (6 * j + 1)) o kR g hC H.size) (vx_cwSW 3 hts gl_H_way rfl rfl rfl (by decide +kernel) ⟨Nat.le_of_ble_eq_true rfl, Nat.le_of_ble_eq_true rfl⟩) (hKR.app hKC) hE hNc hA hP hD hS rfl hl.1 (lv_room (Nat.le_of_ble_eq_true rfl)) dL_law_644 ⟨show Fc + 1000 * j + 125 + 1 ≤ 327717 by omega, show Fs + 9000 * j + 181434 + 6 ≤ 8118330 by omega⟩ (fun r1 u H1 locs1 hp hP hD hS hz1 hs1 => ?_)
  obtain ⟨hC1, hL1⟩ := hp
  refine W.tight (cells2 := u.2.1 + 1000 * (j + 1) + 125) (slots2 := u.2.2.1 + 9000 * (j + 1) + 181434) (by omega) (by omega) ?_
  have hbd1 := hC1.bd
  refine lv_istore hx hb dL_law_647 hl (by decide) rfl (fun ls (hl : lv_has ls _ ([(5, .int r1), (4, .int (nI (6 * j))), (3, .ref o), (2, .ref h2), (1, .ref h1), (0, .ref b)])) => ?_)
  refine lv_aload_n hx hb dL_law_649 rfl (lv_at hl 3 rfl) ?_
  refine lw_arg hx hb hX hbl hbA hS (lv_at hl 5 rfl) (lv_at hl 1 rfl) 1 (by omega) hLs (by decide) dL_law_650 dL_law_651 dL_law_653 dL_law_654 dL_law_655 ?_
  refine lawR_i (y := yX12_way) (ws := wsRX12_way) (mc := 0) (ms := 0) (As := [.int (xs (6 * j + 1))]) (rest := []) ⟨hx, hb, hml, hown, hts⟩ (R_way l dC dI kv h2 T th v (xs (6 * j + 1)) hR H1.size) (cwV 1 hts gl_R_way rfl rfl rfl (by decide +kernel) ⟨Nat.le_of_ble_eq_true rfl, Nat.le_of_ble_eq_true rfl⟩) hR.recv hKV hT9 hA hP hD hS rfl hl.1 (lv_room (Nat.le_of_ble_eq_true rfl)) dL_law_656 ⟨show u.2.1 + 1000 * (j + 1) + 125 + 0 ≤ 327717 by omega, show u.2.2.1 + 9000 * (j + 1) + 181434 + 0 ≤ 8118330 by omega⟩ (fun r2 u2 H2 locs2 hp2 hP hD hS => ?_)
  obtain ⟨hR2, hT2⟩ := hp2
  refine lv_istore hx hb dL_law_659 hl (by decide) rfl (fun ls (hl : lv_has ls _ ([(6, .int r2), (5, .int r1), (4, .int (nI (6 * j))), (3, .ref o), (2, .ref h2), (1, .ref h1), (0, .ref b)])) => ?_)
  refine lv_goto (tgt := 1507) hx hb dL_law_661 (by decide) ?_
  refine W.known (fun z1 z2 => ?_)
  have hTT : (((((u2.1.1 : Nat) : Int), u2.1.2) : LT) = u.1 ∧ u2.1.1 ≤ 20 * (j + 1)) := ⟨by rw [hL1, hT2] <;> rfl, by rw [hT2]; first | omega | (dsimp only; omega)⟩
  exact hgo H2 locs2 ls _ _ ⟨u2.1, u2.2.1, u.2.1, u.2.2.1, u.2.2.2.1, u2.2.2, u.2.2.2.2, by rw [hTT.1]; exact hC1, hR2, hTT.2, hP, hD, hS, by omega, by omega⟩ (lv_sub hl [2, 3, 4, 5, 6] rfl)

theorem dL_law_23 : decode cL_law 23 = .ok (.iload 4, 2) := dk_21 (by decide +kernel)
theorem dL_law_25 : decode cL_law 25 = .ok (.aload_n 0, 1) := dk_42 (by decide +kernel)
theorem dL_law_26 : decode cL_law 26 = .ok (.arraylength, 1) := dk_190 (by decide +kernel)
theorem dL_law_27 : decode cL_law 27 = .ok (.bipush 6, 2) := dk_16 (by decide +kernel)
theorem dL_law_29 : decode cL_law 29 = .ok (.isub, 1) := dk_100 (by decide +kernel)
theorem dL_law_30 : decode cL_law 30 = .ok (.if_icmp .gt 1483, 3) := dk_163 (by decide +kernel)
theorem dL_law_1513 : decode cL_law 1513 = .ok (.iconst 1, 1) := dk_4 (by decide +kernel)
theorem dL_law_1514 : decode cL_law 1514 = .ok (.ireturn, 1) := dk_172 (by decide +kernel)
theorem dL_law_1507 : decode cL_law 1507 = .ok (.iinc 4 6, 3) := dk_132 (by decide +kernel)
theorem dL_law_1510 : decode cL_law 1510 = .ok (.goto (-1487), 3) := dk_167 (by decide +kernel)
theorem dL_law_33 : decode cL_law 33 = .ok (.aload_n 0, 1) := dk_42 (by decide +kernel)
theorem dL_law_34 : decode cL_law 34 = .ok (.iload 4, 2) := dk_21 (by decide +kernel)
theorem dL_law_36 : decode cL_law 36 = .ok (.iaload, 1) := dk_46 (by decide +kernel)
theorem dL_law_37 : decode cL_law 37 = .ok (.bipush 63, 2) := dk_16 (by decide +kernel)
theorem dL_law_39 : decode cL_law 39 = .ok (.iand, 1) := dk_126 (by decide +kernel)
theorem dL_law_40 : decode cL_law 40 = .ok (.tableswitch 1467 0 38 #[172, 243, 268, 279, 295, 320, 360, 412, 480, 496, 540, 568, 596, 624, 640, 680, 696, 733, 761, 786, 811, 839, 903, 940, 965, 978, 1015, 1052, 1063, 1115, 1128, 1153, 1217, 1230, 1270, 1310, 1362, 1414, 1427], 172) := by decide +kernel
set_option maxHeartbeats 4000000 in
set_option maxRecDepth 100000 in
theorem lw_step {p : Program} {e : Env} {s : State} {m : MethodId} {below : List Frame} {meth : Method} {c : Code} (l : Launch) (hst : l.stackTraces = false) {b Ls : Nat} {xs : Nat → Int32} (hLs : Ls ≤ 384) (C0 : lw_At p s m meth c b Ls xs) {A : Nat → Prop} (dC : Nat → ClassId) (dI : Nat → Nat → Nat) (kX : Nat → ClassId) (kT : Nat → ClassId) (kM : Nat → ClassId) (kV : Nat → ClassId) (kC : Nat → ClassId) (kN : Nat → ClassId) (kJ : Nat → ClassId) (kL : Nat → ClassId) (kF : Nat → ClassId) (kO : Nat → ClassId) (kQ : Nat → ClassId) (kG : Nat → ClassId) (kw : ClassId) (kv : Nat → ClassId) (kR : ClassId) (E0 : LwC dC dI kX kT kM kV kC kN kJ kL kF kO kQ kG kw kv kR A s) {h1 h2 o : Nat} {j : Nat} {H : Heap} {locs : List Loc} {ls : Array Slot} {cells slots : Nat} (hj0 : 6 * j ≤ Ls) (hI : LwI dC dI kX kT kM kV kC kN kJ kL kF kO kQ kG kw kv kR A s h1 h2 o j H locs) (hl : lv_has ls 7 [(4, .int (nI (6 * j))), (3, .ref o), (2, .ref h2), (1, .ref h1), (0, .ref b)]) (hgo : 6 * j + 6 ≤ Ls → ∀ (H : Heap) (locs : List Loc) (ls : Array Slot) (cells slots : Nat), LwI dC dI kX kT kM kV kC kN kJ kL kF kO kQ kG kw kv kR A s h1 h2 o (j + 1) H locs → lv_has ls 7 [(4, .int (nI (6 * (j + 1)))), (3, .ref o), (2, .ref h2), (1, .ref h1), (0, .ref b)] → W p l e room_1 s m #[Value.ref b] below meth c H locs cells slots (lw_Z below #[Value.ref b] s) (F0 m 23 ls [])) : W p l e room_1 s m #[Value.ref b] below meth c H locs cells slots (lw_Z below #[Value.ref b] s) (F0 m 23 ls []) := by
  obtain ⟨hx, hb, hr, hml, hown, hts, hX, hbl, hlocks, hgv⟩ := id C0
  have hb : c.code = cL_law := hb
  have hA2 := E0.2.1
  have hbA : ¬ A b := fun h => absurd (hA2 b h) (Nat.not_le.mpr hbl)
  obtain ⟨T, th, Fc, Fs, w, v, g, hC, hR, hT, hP, hD, hS, hz, hn⟩ := id hI
  have hbd := hC.bd
  refine lv_iload hx hb dL_law_23 (lv_at hl 0 rfl) ?_
  refine lv_aload_n hx hb dL_law_25 rfl (lv_at hl 4 rfl) ?_
  refine va_slen hx hb hX hbl hbA hS dL_law_26 ?_
  refine lv_bipush (v := 6) hx hb dL_law_27 (by decide) ?_
  refine lv_isub hx hb dL_law_29 ?_
  have e1 : (Int32.ofNat Ls - 6).toInt = (Ls : Int) - 6 := by
    rw [iI_sub2 (iI_nat Ls) (show (6 : Int32) = iI 6 by decide)]
    exact iI_t (by omega) (by omega)
  have e2 : (nI (6 * j)).toInt = ((6 * j : Nat) : Int) := nI_toInt (by omega)
  refine lv_icmp_gt (tgt := 1513) hx hb dL_law_30 (by decide) (fun c9 => ?_) (fun c9 => ?_)
  · refine W.tight (cells2 := 327717) (slots2 := 8118330) (by omega) (by omega) ?_
    refine lv_iconst (v := 1) hx hb dL_law_1513 (by decide) ?_
    refine va_forget (fun q hq => hA2 _ (hS.2.2 q hq)) ?_
    exact lw_ret hx hb hr hlocks dL_law_1514
  · have t9 := toI_nlt c9 e1 e2
    have hj : 6 * j + 6 ≤ Ls := by omega
    have hgo2 : ∀ (H : Heap) (locs : List Loc) (ls : Array Slot) (cells slots : Nat), LwI dC dI kX kT kM kV kC kN kJ kL kF kO kQ kG kw kv kR A s h1 h2 o (j + 1) H locs → lv_has ls 7 [(4, .int (nI (6 * j))), (3, .ref o), (2, .ref h2), (1, .ref h1), (0, .ref b)] → W p l e room_1 s m #[Value.ref b] below meth c H locs cells slots (lw_Z below #[Value.ref b] s) (F0 m 1507 ls []) := by
      intro H locs ls cells slots hI hl
      refine lv_iinc (v := nI (6 * (j + 1))) hx hb dL_law_1507 hl (k := 0) rfl (by rw [show Int32.ofInt 6 = nI 6 by decide, nI_add, show 6 * j + 6 = 6 * (j + 1) by omega]) (by decide) rfl (fun ls (hl : lv_has ls _ ([(4, .int (nI (6 * (j + 1)))), (3, .ref o), (2, .ref h2), (1, .ref h1), (0, .ref b)])) => ?_)
      refine lv_goto (tgt := 23) hx hb dL_law_1510 (by decide) ?_
      exact hgo hj H locs ls cells slots hI hl
    refine lv_aload_n hx hb dL_law_33 rfl (lv_at hl 4 rfl) ?_
    refine lv_iload hx hb dL_law_34 (lv_at hl 0 rfl) ?_
    have e8 : (nI (6 * j)).toNatClampNeg = 6 * j := nI_clamp (by omega)
    refine va_sld hx hb hX hbl hbA hS (i := nI (6 * j)) ?_ dL_law_36 ?_
    · rintro (h | h)
      · exact absurd (toI_lt h e2 (show (0 : Int32).toInt = 0 by decide)) (by omega)
      · rw [e8] at h; omega
    rw [e8]
    refine lv_bipush (v := 63) hx hb dL_law_37 (by decide) ?_
    refine lv_iand hx hb dL_law_39 ?_
    refine lv_topi (fun x9 hx9 => ?_)
    by_cases s_0 : x9 = 0
    · refine lv_tableIn (off := 172) (tgt := 212) hx hb dL_law_40 (by rw [s_0]; decide) (by rw [s_0]; decide) (by rw [s_0]; decide) (by decide) ?_
      exact lc_0 l hst hLs C0 dC dI kX kT kM kV kC kN kJ kL kF kO kQ kG kw kv kR E0 hj hI hl hgo2
    by_cases s_1 : x9 = 1
    · refine lv_tableIn (off := 243) (tgt := 283) hx hb dL_law_40 (by rw [s_1]; decide) (by rw [s_1]; decide) (by rw [s_1]; decide) (by decide) ?_
      exact lc_1 l hst hLs C0 dC dI kX kT kM kV kC kN kJ kL kF kO kQ kG kw kv kR E0 hj hI hl hgo2
    by_cases s_2 : x9 = 2
    · refine lv_tableIn (off := 268) (tgt := 308) hx hb dL_law_40 (by rw [s_2]; decide) (by rw [s_2]; decide) (by rw [s_2]; decide) (by decide) ?_
      exact lc_2 l hst hLs C0 dC dI kX kT kM kV kC kN kJ kL kF kO kQ kG kw kv kR E0 hj hI hl hgo2
    by_cases s_3 : x9 = 3
    · refine lv_tableIn (off := 279) (tgt := 319) hx hb dL_law_40 (by rw [s_3]; decide) (by rw [s_3]; decide) (by rw [s_3]; decide) (by decide) ?_
      exact lc_3 l hst hLs C0 dC dI kX kT kM kV kC kN kJ kL kF kO kQ kG kw kv kR E0 hj hI hl hgo2
    by_cases s_4 : x9 = 4
    · refine lv_tableIn (off := 295) (tgt := 335) hx hb dL_law_40 (by rw [s_4]; decide) (by rw [s_4]; decide) (by rw [s_4]; decide) (by decide) ?_
      exact lc_4 l hst hLs C0 dC dI kX kT kM kV kC kN kJ kL kF kO kQ kG kw kv kR E0 hj hI hl hgo2
    by_cases s_5 : x9 = 5
    · refine lv_tableIn (off := 320) (tgt := 360) hx hb dL_law_40 (by rw [s_5]; decide) (by rw [s_5]; decide) (by rw [s_5]; decide) (by decide) ?_
      exact lc_5 l hst hLs C0 dC dI kX kT kM kV kC kN kJ kL kF kO kQ kG kw kv kR E0 hj hI hl hgo2
    by_cases s_6 : x9 = 6
    · refine lv_tableIn (off := 360) (tgt := 400) hx hb dL_law_40 (by rw [s_6]; decide) (by rw [s_6]; decide) (by rw [s_6]; decide) (by decide) ?_
      exact lc_6 l hst hLs C0 dC dI kX kT kM kV kC kN kJ kL kF kO kQ kG kw kv kR E0 hj hI hl hgo2
    by_cases s_7 : x9 = 7
    · refine lv_tableIn (off := 412) (tgt := 452) hx hb dL_law_40 (by rw [s_7]; decide) (by rw [s_7]; decide) (by rw [s_7]; decide) (by decide) ?_
      exact lc_7 l hst hLs C0 dC dI kX kT kM kV kC kN kJ kL kF kO kQ kG kw kv kR E0 hj hI hl hgo2
    by_cases s_8 : x9 = 8
    · refine lv_tableIn (off := 480) (tgt := 520) hx hb dL_law_40 (by rw [s_8]; decide) (by rw [s_8]; decide) (by rw [s_8]; decide) (by decide) ?_
      exact lc_8 l hst hLs C0 dC dI kX kT kM kV kC kN kJ kL kF kO kQ kG kw kv kR E0 hj hI hl hgo2
    by_cases s_9 : x9 = 9
    · refine lv_tableIn (off := 496) (tgt := 536) hx hb dL_law_40 (by rw [s_9]; decide) (by rw [s_9]; decide) (by rw [s_9]; decide) (by decide) ?_
      exact lc_9 l hst hLs C0 dC dI kX kT kM kV kC kN kJ kL kF kO kQ kG kw kv kR E0 hj hI hl hgo2
    by_cases s_10 : x9 = 10
    · refine lv_tableIn (off := 540) (tgt := 580) hx hb dL_law_40 (by rw [s_10]; decide) (by rw [s_10]; decide) (by rw [s_10]; decide) (by decide) ?_
      exact lc_10 l hst hLs C0 dC dI kX kT kM kV kC kN kJ kL kF kO kQ kG kw kv kR E0 hj hI hl hgo2
    by_cases s_11 : x9 = 11
    · refine lv_tableIn (off := 568) (tgt := 608) hx hb dL_law_40 (by rw [s_11]; decide) (by rw [s_11]; decide) (by rw [s_11]; decide) (by decide) ?_
      exact lc_11 l hst hLs C0 dC dI kX kT kM kV kC kN kJ kL kF kO kQ kG kw kv kR E0 hj hI hl hgo2
    by_cases s_12 : x9 = 12
    · refine lv_tableIn (off := 596) (tgt := 636) hx hb dL_law_40 (by rw [s_12]; decide) (by rw [s_12]; decide) (by rw [s_12]; decide) (by decide) ?_
      exact lc_12 l hst hLs C0 dC dI kX kT kM kV kC kN kJ kL kF kO kQ kG kw kv kR E0 hj hI hl hgo2
    by_cases s_13 : x9 = 13
    · refine lv_tableIn (off := 624) (tgt := 664) hx hb dL_law_40 (by rw [s_13]; decide) (by rw [s_13]; decide) (by rw [s_13]; decide) (by decide) ?_
      exact lc_13 l hst hLs C0 dC dI kX kT kM kV kC kN kJ kL kF kO kQ kG kw kv kR E0 hj hI hl hgo2
    by_cases s_14 : x9 = 14
    · refine lv_tableIn (off := 640) (tgt := 680) hx hb dL_law_40 (by rw [s_14]; decide) (by rw [s_14]; decide) (by rw [s_14]; decide) (by decide) ?_
      exact lc_14 l hst hLs C0 dC dI kX kT kM kV kC kN kJ kL kF kO kQ kG kw kv kR E0 hj hI hl hgo2
    by_cases s_15 : x9 = 15
    · refine lv_tableIn (off := 680) (tgt := 720) hx hb dL_law_40 (by rw [s_15]; decide) (by rw [s_15]; decide) (by rw [s_15]; decide) (by decide) ?_
      exact lc_15 l hst hLs C0 dC dI kX kT kM kV kC kN kJ kL kF kO kQ kG kw kv kR E0 hj hI hl hgo2
    by_cases s_16 : x9 = 16
    · refine lv_tableIn (off := 696) (tgt := 736) hx hb dL_law_40 (by rw [s_16]; decide) (by rw [s_16]; decide) (by rw [s_16]; decide) (by decide) ?_
      exact lc_16 l hst hLs C0 dC dI kX kT kM kV kC kN kJ kL kF kO kQ kG kw kv kR E0 hj hI hl hgo2
    by_cases s_17 : x9 = 17
    · refine lv_tableIn (off := 733) (tgt := 773) hx hb dL_law_40 (by rw [s_17]; decide) (by rw [s_17]; decide) (by rw [s_17]; decide) (by decide) ?_
      exact lc_17 l hst hLs C0 dC dI kX kT kM kV kC kN kJ kL kF kO kQ kG kw kv kR E0 hj hI hl hgo2
    by_cases s_18 : x9 = 18
    · refine lv_tableIn (off := 761) (tgt := 801) hx hb dL_law_40 (by rw [s_18]; decide) (by rw [s_18]; decide) (by rw [s_18]; decide) (by decide) ?_
      exact lc_18 l hst hLs C0 dC dI kX kT kM kV kC kN kJ kL kF kO kQ kG kw kv kR E0 hj hI hl hgo2
    by_cases s_19 : x9 = 19
    · refine lv_tableIn (off := 786) (tgt := 826) hx hb dL_law_40 (by rw [s_19]; decide) (by rw [s_19]; decide) (by rw [s_19]; decide) (by decide) ?_
      exact lc_19 l hst hLs C0 dC dI kX kT kM kV kC kN kJ kL kF kO kQ kG kw kv kR E0 hj hI hl hgo2
    by_cases s_20 : x9 = 20
    · refine lv_tableIn (off := 811) (tgt := 851) hx hb dL_law_40 (by rw [s_20]; decide) (by rw [s_20]; decide) (by rw [s_20]; decide) (by decide) ?_
      exact lc_20 l hst hLs C0 dC dI kX kT kM kV kC kN kJ kL kF kO kQ kG kw kv kR E0 hj hI hl hgo2
    by_cases s_21 : x9 = 21
    · refine lv_tableIn (off := 839) (tgt := 879) hx hb dL_law_40 (by rw [s_21]; decide) (by rw [s_21]; decide) (by rw [s_21]; decide) (by decide) ?_
      exact lc_21 l hst hLs C0 dC dI kX kT kM kV kC kN kJ kL kF kO kQ kG kw kv kR E0 hj hI hl hgo2
    by_cases s_22 : x9 = 22
    · refine lv_tableIn (off := 903) (tgt := 943) hx hb dL_law_40 (by rw [s_22]; decide) (by rw [s_22]; decide) (by rw [s_22]; decide) (by decide) ?_
      exact lc_22 l hst hLs C0 dC dI kX kT kM kV kC kN kJ kL kF kO kQ kG kw kv kR E0 hj hI hl hgo2
    by_cases s_23 : x9 = 23
    · refine lv_tableIn (off := 940) (tgt := 980) hx hb dL_law_40 (by rw [s_23]; decide) (by rw [s_23]; decide) (by rw [s_23]; decide) (by decide) ?_
      exact lc_23 l hst hLs C0 dC dI kX kT kM kV kC kN kJ kL kF kO kQ kG kw kv kR E0 hj hI hl hgo2
    by_cases s_24 : x9 = 24
    · refine lv_tableIn (off := 965) (tgt := 1005) hx hb dL_law_40 (by rw [s_24]; decide) (by rw [s_24]; decide) (by rw [s_24]; decide) (by decide) ?_
      exact lc_24 l hst hLs C0 dC dI kX kT kM kV kC kN kJ kL kF kO kQ kG kw kv kR E0 hj hI hl hgo2
    by_cases s_25 : x9 = 25
    · refine lv_tableIn (off := 978) (tgt := 1018) hx hb dL_law_40 (by rw [s_25]; decide) (by rw [s_25]; decide) (by rw [s_25]; decide) (by decide) ?_
      exact lc_25 l hst hLs C0 dC dI kX kT kM kV kC kN kJ kL kF kO kQ kG kw kv kR E0 hj hI hl hgo2
    by_cases s_26 : x9 = 26
    · refine lv_tableIn (off := 1015) (tgt := 1055) hx hb dL_law_40 (by rw [s_26]; decide) (by rw [s_26]; decide) (by rw [s_26]; decide) (by decide) ?_
      exact lc_26 l hst hLs C0 dC dI kX kT kM kV kC kN kJ kL kF kO kQ kG kw kv kR E0 hj hI hl hgo2
    by_cases s_27 : x9 = 27
    · refine lv_tableIn (off := 1052) (tgt := 1092) hx hb dL_law_40 (by rw [s_27]; decide) (by rw [s_27]; decide) (by rw [s_27]; decide) (by decide) ?_
      exact lc_27 l hst hLs C0 dC dI kX kT kM kV kC kN kJ kL kF kO kQ kG kw kv kR E0 hj hI hl hgo2
    by_cases s_28 : x9 = 28
    · refine lv_tableIn (off := 1063) (tgt := 1103) hx hb dL_law_40 (by rw [s_28]; decide) (by rw [s_28]; decide) (by rw [s_28]; decide) (by decide) ?_
      exact lc_28 l hst hLs C0 dC dI kX kT kM kV kC kN kJ kL kF kO kQ kG kw kv kR E0 hj hI hl hgo2
    by_cases s_29 : x9 = 29
    · refine lv_tableIn (off := 1115) (tgt := 1155) hx hb dL_law_40 (by rw [s_29]; decide) (by rw [s_29]; decide) (by rw [s_29]; decide) (by decide) ?_
      exact lc_29 l hst hLs C0 dC dI kX kT kM kV kC kN kJ kL kF kO kQ kG kw kv kR E0 hj hI hl hgo2
    by_cases s_30 : x9 = 30
    · refine lv_tableIn (off := 1128) (tgt := 1168) hx hb dL_law_40 (by rw [s_30]; decide) (by rw [s_30]; decide) (by rw [s_30]; decide) (by decide) ?_
      exact lc_30 l hst hLs C0 dC dI kX kT kM kV kC kN kJ kL kF kO kQ kG kw kv kR E0 hj hI hl hgo2
    by_cases s_31 : x9 = 31
    · refine lv_tableIn (off := 1153) (tgt := 1193) hx hb dL_law_40 (by rw [s_31]; decide) (by rw [s_31]; decide) (by rw [s_31]; decide) (by decide) ?_
      exact lc_31 l hst hLs C0 dC dI kX kT kM kV kC kN kJ kL kF kO kQ kG kw kv kR E0 hj hI hl hgo2
    by_cases s_32 : x9 = 32
    · refine lv_tableIn (off := 1217) (tgt := 1257) hx hb dL_law_40 (by rw [s_32]; decide) (by rw [s_32]; decide) (by rw [s_32]; decide) (by decide) ?_
      exact lc_32 l hst hLs C0 dC dI kX kT kM kV kC kN kJ kL kF kO kQ kG kw kv kR E0 hj hI hl hgo2
    by_cases s_33 : x9 = 33
    · refine lv_tableIn (off := 1230) (tgt := 1270) hx hb dL_law_40 (by rw [s_33]; decide) (by rw [s_33]; decide) (by rw [s_33]; decide) (by decide) ?_
      exact lc_33 l hst hLs C0 dC dI kX kT kM kV kC kN kJ kL kF kO kQ kG kw kv kR E0 hj hI hl hgo2
    by_cases s_34 : x9 = 34
    · refine lv_tableIn (off := 1270) (tgt := 1310) hx hb dL_law_40 (by rw [s_34]; decide) (by rw [s_34]; decide) (by rw [s_34]; decide) (by decide) ?_
      exact lc_34 l hst hLs C0 dC dI kX kT kM kV kC kN kJ kL kF kO kQ kG kw kv kR E0 hj hI hl hgo2
    by_cases s_35 : x9 = 35
    · refine lv_tableIn (off := 1310) (tgt := 1350) hx hb dL_law_40 (by rw [s_35]; decide) (by rw [s_35]; decide) (by rw [s_35]; decide) (by decide) ?_
      exact lc_35 l hst hLs C0 dC dI kX kT kM kV kC kN kJ kL kF kO kQ kG kw kv kR E0 hj hI hl hgo2
    by_cases s_36 : x9 = 36
    · refine lv_tableIn (off := 1362) (tgt := 1402) hx hb dL_law_40 (by rw [s_36]; decide) (by rw [s_36]; decide) (by rw [s_36]; decide) (by decide) ?_
      exact lc_36 l hst hLs C0 dC dI kX kT kM kV kC kN kJ kL kF kO kQ kG kw kv kR E0 hj hI hl hgo2
    by_cases s_37 : x9 = 37
    · refine lv_tableIn (off := 1414) (tgt := 1454) hx hb dL_law_40 (by rw [s_37]; decide) (by rw [s_37]; decide) (by rw [s_37]; decide) (by decide) ?_
      exact lc_37 l hst hLs C0 dC dI kX kT kM kV kC kN kJ kL kF kO kQ kG kw kv kR E0 hj hI hl hgo2
    by_cases s_38 : x9 = 38
    · refine lv_tableIn (off := 1427) (tgt := 1467) hx hb dL_law_40 (by rw [s_38]; decide) (by rw [s_38]; decide) (by rw [s_38]; decide) (by decide) ?_
      exact lc_38 l hst hLs C0 dC dI kX kT kM kV kC kN kJ kL kF kO kQ kG kw kv kR E0 hj hI hl hgo2
    refine lv_tableOut (tgt := 1507) hx hb dL_law_40 (by have := lv_neT s_0 (show Int32.toInt 0 = 0 by decide); have := lv_neT s_1 (show Int32.toInt 1 = 1 by decide); have := lv_neT s_2 (show Int32.toInt 2 = 2 by decide); have := lv_neT s_3 (show Int32.toInt 3 = 3 by decide); have := lv_neT s_4 (show Int32.toInt 4 = 4 by decide); have := lv_neT s_5 (show Int32.toInt 5 = 5 by decide); have := lv_neT s_6 (show Int32.toInt 6 = 6 by decide); have := lv_neT s_7 (show Int32.toInt 7 = 7 by decide); have := lv_neT s_8 (show Int32.toInt 8 = 8 by decide); have := lv_neT s_9 (show Int32.toInt 9 = 9 by decide); have := lv_neT s_10 (show Int32.toInt 10 = 10 by decide); have := lv_neT s_11 (show Int32.toInt 11 = 11 by decide); have := lv_neT s_12 (show Int32.toInt 12 = 12 by decide); have := lv_neT s_13 (show Int32.toInt 13 = 13 by decide); have := lv_neT s_14 (show Int32.toInt 14 = 14 by decide); have := lv_neT s_15 (show Int32.toInt 15 = 15 by decide); have := lv_neT s_16 (show Int32.toInt 16 = 16 by decide); have := lv_neT s_17 (show Int32.toInt 17 = 17 by decide); have := lv_neT s_18 (show Int32.toInt 18 = 18 by decide); have := lv_neT s_19 (show Int32.toInt 19 = 19 by decide); have := lv_neT s_20 (show Int32.toInt 20 = 20 by decide); have := lv_neT s_21 (show Int32.toInt 21 = 21 by decide); have := lv_neT s_22 (show Int32.toInt 22 = 22 by decide); have := lv_neT s_23 (show Int32.toInt 23 = 23 by decide); have := lv_neT s_24 (show Int32.toInt 24 = 24 by decide); have := lv_neT s_25 (show Int32.toInt 25 = 25 by decide); have := lv_neT s_26 (show Int32.toInt 26 = 26 by decide); have := lv_neT s_27 (show Int32.toInt 27 = 27 by decide); have := lv_neT s_28 (show Int32.toInt 28 = 28 by decide); have := lv_neT s_29 (show Int32.toInt 29 = 29 by decide); have := lv_neT s_30 (show Int32.toInt 30 = 30 by decide); have := lv_neT s_31 (show Int32.toInt 31 = 31 by decide); have := lv_neT s_32 (show Int32.toInt 32 = 32 by decide); have := lv_neT s_33 (show Int32.toInt 33 = 33 by decide); have := lv_neT s_34 (show Int32.toInt 34 = 34 by decide); have := lv_neT s_35 (show Int32.toInt 35 = 35 by decide); have := lv_neT s_36 (show Int32.toInt 36 = 36 by decide); have := lv_neT s_37 (show Int32.toInt 37 = 37 by decide); have := lv_neT s_38 (show Int32.toInt 38 = 38 by decide); omega) (by decide) ?_
    exact hgo2 H locs ls _ _ ⟨T, th, Fc, Fs, w, v, g, hC, hR, by omega, hP, hD, hS, by omega, by omega⟩ hl
theorem lw_loop {p : Program} {e : Env} {s : State} {m : MethodId} {below : List Frame} {meth : Method} {c : Code} (l : Launch) (hst : l.stackTraces = false) {b Ls : Nat} {xs : Nat → Int32} (hLs : Ls ≤ 384) (C0 : lw_At p s m meth c b Ls xs) {A : Nat → Prop} (dC : Nat → ClassId) (dI : Nat → Nat → Nat) (kX : Nat → ClassId) (kT : Nat → ClassId) (kM : Nat → ClassId) (kV : Nat → ClassId) (kC : Nat → ClassId) (kN : Nat → ClassId) (kJ : Nat → ClassId) (kL : Nat → ClassId) (kF : Nat → ClassId) (kO : Nat → ClassId) (kQ : Nat → ClassId) (kG : Nat → ClassId) (kw : ClassId) (kv : Nat → ClassId) (kR : ClassId) (E0 : LwC dC dI kX kT kM kV kC kN kJ kL kF kO kQ kG kw kv kR A s) {h1 h2 o : Nat} : ∀ (n j : Nat) (H : Heap) (locs : List Loc) (ls : Array Slot) (cells slots : Nat), Ls ≤ 6 * j + n → 6 * j ≤ Ls → LwI dC dI kX kT kM kV kC kN kJ kL kF kO kQ kG kw kv kR A s h1 h2 o j H locs → lv_has ls 7 [(4, .int (nI (6 * j))), (3, .ref o), (2, .ref h2), (1, .ref h1), (0, .ref b)] → W p l e room_1 s m #[Value.ref b] below meth c H locs cells slots (lw_Z below #[Value.ref b] s) (F0 m 23 ls []) := by
  intro n
  induction n with
  | zero =>
    intro j H locs ls cells slots h0 h1 hI hl
    exact lw_step l hst hLs C0 dC dI kX kT kM kV kC kN kJ kL kF kO kQ kG kw kv kR E0 h1 hI hl (fun h9 => absurd h9 (by omega))
  | succ n ih =>
    intro j H locs ls cells slots h0 h1 hI hl
    exact lw_step l hst hLs C0 dC dI kX kT kM kV kC kN kJ kL kF kO kQ kG kw kv kR E0 h1 hI hl (fun h9 H locs ls cells slots hI hl => ih (j + 1) H locs ls cells slots (by omega) (by omega) hI hl)

/-- what the Statement gives of a text -/
def SL (own : String) (k n : Nat) (f : Nat → Int32) : List Cond := [.exactly (.string own k) "java/lang/String", .eq (.field (.string own k) "java/lang/String" "coder" "B") (.int 0), .arrayOf (.field (.string own k) "java/lang/String" "value" "[B") .byte, .eq (.length (.field (.string own k) "java/lang/String" "value" "[B")) (.int (Int32.ofNat n))] ++ (List.range n).map (fun j => .eq (.elem (.field (.string own k) "java/lang/String" "value" "[B") (.int (Int32.ofNat j))) (.int (f j)))
theorem str_of {args : Array Value} {s : State} {own tx : String} {k n : Nat} {f : Nat → Int32} {A : Nat → Prop} (hJ : JdkE A s s.heap) (hN : n < 2 ^ 31) (hr : (Cond.stringRef own k tx).before args s = true) (hs : ∀ c ∈ SL own k n f, c.before args s = true) (hA : ∀ a : Nat, a < s.heap.size → ¬ A a) : ∃ q, vk_R own k tx q s ∧ StrE q n f A s s.heap := by
  have hex := hs (.exactly (.string own k) "java/lang/String") (List.mem_append_left _ (List.mem_of_getElem? (i := 0) rfl))
  have hco := hs (.eq (.field (.string own k) "java/lang/String" "coder" "B") (.int 0)) (List.mem_append_left _ (List.mem_of_getElem? (i := 1) rfl))
  have har := hs (.arrayOf (.field (.string own k) "java/lang/String" "value" "[B") .byte) (List.mem_append_left _ (List.mem_of_getElem? (i := 2) rfl))
  have hle := hs (.eq (.length (.field (.string own k) "java/lang/String" "value" "[B")) (.int (Int32.ofNat n))) (List.mem_append_left _ (List.mem_of_getElem? (i := 3) rfl))
  have hel : ∀ j : Nat, j < n → (Cond.eq (.elem (.field (.string own k) "java/lang/String" "value" "[B") (.int (Int32.ofNat j))) (.int (f j))).before args s = true := fun j hj => hs _ (List.mem_append_right _ (List.mem_map.mpr ⟨j, List.mem_range.mpr hj, rfl⟩))
  obtain ⟨a, c, cA, kA, q1, q2, q3, q4, q5, q6, -⟩ := Cond.exactly_spec (args := args) (first := s) (o := none) (s := s) (idx := []) (t := .string own k) (cls := "java/lang/String") hex
  obtain ⟨t, ht, hT⟩ := va_Tof (f := fun j => .int (f j)) (A := A) hN har (va_eqt hle) (fun j hj => va_eqt (hel j hj)) hA
  exact ⟨a, vk_R.of hr q1, hJ, ⟨cA, q3, q5, by rw [q6]; exact q2, hA a (Array.getElem?_eq_some_iff.mp q3).1⟩, vk_OFof q1 (va_eqt hco) hA, t, vk_OFof q1 ht hA, hT⟩
set_option maxRecDepth 100000 in
theorem sl_ref : ∀ w ∈ sTab.map (fun x => Cond.stringRef x.1 x.2.1 x.2.2.1), w ∈ lw_tbl := mem_p _ [(6, 196), (6, 216), (6, 217), (6, 218), (6, 219), (6, 224), (6, 225), (6, 226), (7, 3), (7, 4), (7, 5), (7, 6), (6, 235), (6, 236), (7, 1), (7, 2), (7, 11), (7, 12), (7, 17), (7, 18), (7, 19), (7, 20), (4, 109), (4, 166)] (by decide +kernel)
theorem mem_f (ws : List Cond) (ps : List Nat) (hp : ws = ps.filterMap (fun i => (flatC (Jvm.Cond.and given_1 narrow_1))[i]?)) : ∀ w ∈ ws, w ∈ flatC (Jvm.Cond.and given_1 narrow_1) := by
  intro w h
  rw [hp] at h
  obtain ⟨q, -, hq⟩ := List.mem_filterMap.mp h
  exact List.mem_of_getElem? hq
set_option maxRecDepth 100000 in
theorem sl_277 : ∀ c ∈ SL RX11 277 5 (fun j => ([118, 97, 114, 32, 120] : List Int32).getD j 0), c ∈ flatC (Jvm.Cond.and given_1 narrow_1) := mem_f _ [151, 152, 153, 154, 155, 156, 157, 158, 159] (by decide +kernel)
set_option maxRecDepth 100000 in
theorem sl_286 : ∀ c ∈ SL RX11 286 6 (fun j => ([32, 119, 104, 111, 108, 101] : List Int32).getD j 0), c ∈ flatC (Jvm.Cond.and given_1 narrow_1) := mem_f _ [160, 161, 162, 163, 164, 165, 166, 167, 168, 169] (by decide +kernel)
set_option maxRecDepth 100000 in
theorem sl_288 : ∀ c ∈ SL RX11 288 6 (fun j => ([32, 102, 114, 111, 109, 32] : List Int32).getD j 0), c ∈ flatC (Jvm.Cond.and given_1 narrow_1) := mem_f _ [170, 171, 172, 173, 174, 175, 176, 177, 178, 179] (by decide +kernel)
set_option maxRecDepth 100000 in
theorem sl_290 : ∀ c ∈ SL RX11 290 4 (fun j => ([32, 116, 111, 32] : List Int32).getD j 0), c ∈ flatC (Jvm.Cond.and given_1 narrow_1) := mem_f _ [180, 181, 182, 183, 184, 185, 186, 187] (by decide +kernel)
set_option maxRecDepth 100000 in
theorem sl_292 : ∀ c ∈ SL RX11 292 3 (fun j => ([32, 59, 10] : List Int32).getD j 0), c ∈ flatC (Jvm.Cond.and given_1 narrow_1) := mem_f _ [188, 189, 190, 191, 192, 193, 194] (by decide +kernel)
set_option maxRecDepth 100000 in
theorem sl_294 : ∀ c ∈ SL RX11 294 5 (fun j => ([114, 111, 119, 32, 114] : List Int32).getD j 0), c ∈ flatC (Jvm.Cond.and given_1 narrow_1) := mem_f _ [195, 196, 197, 198, 199, 200, 201, 202, 203] (by decide +kernel)
set_option maxRecDepth 100000 in
theorem sl_296 : ∀ c ∈ SL RX11 296 2 (fun j => ([32, 58] : List Int32).getD j 0), c ∈ flatC (Jvm.Cond.and given_1 narrow_1) := mem_f _ [204, 205, 206, 207, 208, 209] (by decide +kernel)
set_option maxRecDepth 100000 in
theorem sl_298 : ∀ c ∈ SL RX11 298 3 (fun j => ([32, 111, 114] : List Int32).getD j 0), c ∈ flatC (Jvm.Cond.and given_1 narrow_1) := mem_f _ [210, 211, 212, 213, 214, 215, 216] (by decide +kernel)
set_option maxRecDepth 100000 in
theorem sl_307 : ∀ c ∈ SL RX11 307 2 (fun j => ([32, 48] : List Int32).getD j 0), c ∈ flatC (Jvm.Cond.and given_1 narrow_1) := mem_f _ [241, 242, 243, 244, 245, 246] (by decide +kernel)
set_option maxRecDepth 100000 in
theorem sl_309 : ∀ c ∈ SL RX11 309 4 (fun j => ([32, 60, 61, 32] : List Int32).getD j 0), c ∈ flatC (Jvm.Cond.and given_1 narrow_1) := mem_f _ [247, 248, 249, 250, 251, 252, 253, 254] (by decide +kernel)
set_option maxRecDepth 100000 in
theorem sl_311 : ∀ c ∈ SL RX11 311 4 (fun j => ([32, 62, 61, 32] : List Int32).getD j 0), c ∈ flatC (Jvm.Cond.and given_1 narrow_1) := mem_f _ [255, 256, 257, 258, 259, 260, 261, 262] (by decide +kernel)
set_option maxRecDepth 100000 in
theorem sl_313 : ∀ c ∈ SL RX11 313 3 (fun j => ([32, 61, 32] : List Int32).getD j 0), c ∈ flatC (Jvm.Cond.and given_1 narrow_1) := mem_f _ [263, 264, 265, 266, 267, 268, 269] (by decide +kernel)
set_option maxRecDepth 100000 in
theorem sl_315 : ∀ c ∈ SL RX11 315 2 (fun j => ([32, 45] : List Int32).getD j 0), c ∈ flatC (Jvm.Cond.and given_1 narrow_1) := mem_f _ [217, 218, 219, 220, 221, 222] (by decide +kernel)
set_option maxRecDepth 100000 in
theorem sl_317 : ∀ c ∈ SL RX11 317 2 (fun j => ([32, 43] : List Int32).getD j 0), c ∈ flatC (Jvm.Cond.and given_1 narrow_1) := mem_f _ [223, 224, 225, 226, 227, 228] (by decide +kernel)
set_option maxRecDepth 100000 in
theorem sl_322 : ∀ c ∈ SL RX11 322 2 (fun j => ([32, 42] : List Int32).getD j 0), c ∈ flatC (Jvm.Cond.and given_1 narrow_1) := mem_f _ [229, 230, 231, 232, 233, 234] (by decide +kernel)
set_option maxRecDepth 100000 in
theorem sl_324 : ∀ c ∈ SL RX11 324 2 (fun j => ([32, 120] : List Int32).getD j 0), c ∈ flatC (Jvm.Cond.and given_1 narrow_1) := mem_f _ [235, 236, 237, 238, 239, 240] (by decide +kernel)
set_option maxRecDepth 100000 in
theorem sl_326 : ∀ c ∈ SL RX11 326 9 (fun j => ([100, 105, 102, 102, 101, 114, 101, 110, 116] : List Int32).getD j 0), c ∈ flatC (Jvm.Cond.and given_1 narrow_1) := mem_f _ [270, 271, 272, 273, 274, 275, 276, 277, 278, 279, 280, 281, 282] (by decide +kernel)
set_option maxRecDepth 100000 in
theorem sl_327 : ∀ c ∈ SL RX11 327 4 (fun j => ([32, 44, 32, 120] : List Int32).getD j 0), c ∈ flatC (Jvm.Cond.and given_1 narrow_1) := mem_f _ [283, 284, 285, 286, 287, 288, 289, 290] (by decide +kernel)
set_option maxRecDepth 100000 in
theorem sl_329 : ∀ c ∈ SL RX11 329 3 (fun j => ([109, 97, 120] : List Int32).getD j 0), c ∈ flatC (Jvm.Cond.and given_1 narrow_1) := mem_f _ [291, 292, 293, 294, 295, 296, 297] (by decide +kernel)
set_option maxRecDepth 100000 in
theorem sl_331 : ∀ c ∈ SL RX11 331 3 (fun j => ([109, 105, 110] : List Int32).getD j 0), c ∈ flatC (Jvm.Cond.and given_1 narrow_1) := mem_f _ [298, 299, 300, 301, 302, 303, 304] (by decide +kernel)
set_option maxRecDepth 100000 in
theorem sl_333 : ∀ c ∈ SL RX11 333 3 (fun j => ([32, 45, 32] : List Int32).getD j 0), c ∈ flatC (Jvm.Cond.and given_1 narrow_1) := mem_f _ [305, 306, 307, 308, 309, 310, 311] (by decide +kernel)
set_option maxRecDepth 100000 in
theorem sl_335 : ∀ c ∈ SL RX11 335 3 (fun j => ([32, 43, 32] : List Int32).getD j 0), c ∈ flatC (Jvm.Cond.and given_1 narrow_1) := mem_f _ [312, 313, 314, 315, 316, 317, 318] (by decide +kernel)
set_option maxRecDepth 100000 in
theorem sl_70 : ∀ c ∈ SL RX9 70 71 (fun j => ([115, 101, 116, 32, 112, 97, 114, 97, 109, 32, 118, 97, 114, 32, 119, 104, 111, 108, 101, 32, 102, 114, 111, 109, 32, 116, 111, 32, 114, 111, 119, 32, 111, 114, 32, 105, 102, 32, 97, 110, 100, 32, 110, 111, 116, 32, 105, 110, 32, 115, 117, 109, 32, 100, 105, 102, 102, 101, 114, 101, 110, 116, 32, 109, 105, 110, 32, 109, 97, 120, 32] : List Int32).getD j 0), c ∈ flatC (Jvm.Cond.and given_1 narrow_1) := mem_f _ [56, 57, 58, 59, 60, 61, 62, 63, 64, 65, 66, 67, 68, 69, 70, 71, 72, 73, 74, 75, 76, 77, 78, 79, 80, 81, 82, 83, 84, 85, 86, 87, 88, 89, 90, 91, 92, 93, 94, 95, 96, 97, 98, 99, 100, 101, 102, 103, 104, 105, 106, 107, 108, 109, 110, 111, 112, 113, 114, 115, 116, 117, 118, 119, 120, 121, 122, 123, 124, 125, 126, 127, 128, 129, 130] (by decide +kernel)
set_option maxRecDepth 100000 in
theorem sl_84 : ∀ c ∈ SL RX9 84 16 (fun j => ([61, 60, 62, 58, 59, 44, 91, 93, 123, 125, 40, 41, 43, 45, 42, 47] : List Int32).getD j 0), c ∈ flatC (Jvm.Cond.and given_1 narrow_1) := mem_f _ [131, 132, 133, 134, 135, 136, 137, 138, 139, 140, 141, 142, 143, 144, 145, 146, 147, 148, 149, 150] (by decide +kernel)
set_option maxRecDepth 100000 in
theorem sl_cls : ∀ x ∈ sTab, (∀ c ∈ SL x.1 x.2.1 x.2.2.2.length (fun j => x.2.2.2.getD j 0), c ∈ flatC (Jvm.Cond.and given_1 narrow_1)) ∧ x.2.2.2.length < 2 ^ 31 := by
  unfold sTab
  exact (List.forall_mem_cons.mpr ⟨⟨sl_277, by decide⟩, (List.forall_mem_cons.mpr ⟨⟨sl_286, by decide⟩, (List.forall_mem_cons.mpr ⟨⟨sl_288, by decide⟩, (List.forall_mem_cons.mpr ⟨⟨sl_290, by decide⟩, (List.forall_mem_cons.mpr ⟨⟨sl_292, by decide⟩, (List.forall_mem_cons.mpr ⟨⟨sl_294, by decide⟩, (List.forall_mem_cons.mpr ⟨⟨sl_296, by decide⟩, (List.forall_mem_cons.mpr ⟨⟨sl_298, by decide⟩, (List.forall_mem_cons.mpr ⟨⟨sl_307, by decide⟩, (List.forall_mem_cons.mpr ⟨⟨sl_309, by decide⟩, (List.forall_mem_cons.mpr ⟨⟨sl_311, by decide⟩, (List.forall_mem_cons.mpr ⟨⟨sl_313, by decide⟩, (List.forall_mem_cons.mpr ⟨⟨sl_315, by decide⟩, (List.forall_mem_cons.mpr ⟨⟨sl_317, by decide⟩, (List.forall_mem_cons.mpr ⟨⟨sl_322, by decide⟩, (List.forall_mem_cons.mpr ⟨⟨sl_324, by decide⟩, (List.forall_mem_cons.mpr ⟨⟨sl_326, by decide⟩, (List.forall_mem_cons.mpr ⟨⟨sl_327, by decide⟩, (List.forall_mem_cons.mpr ⟨⟨sl_329, by decide⟩, (List.forall_mem_cons.mpr ⟨⟨sl_331, by decide⟩, (List.forall_mem_cons.mpr ⟨⟨sl_333, by decide⟩, (List.forall_mem_cons.mpr ⟨⟨sl_335, by decide⟩, (List.forall_mem_cons.mpr ⟨⟨sl_70, by decide⟩, (List.forall_mem_cons.mpr ⟨⟨sl_84, by decide⟩, (fun _ h => absurd h List.not_mem_nil)⟩)⟩)⟩)⟩)⟩)⟩)⟩)⟩)⟩)⟩)⟩)⟩)⟩)⟩)⟩)⟩)⟩)⟩)⟩)⟩)⟩)⟩)⟩)⟩)
set_option maxRecDepth 100000 in
theorem sl_mod : (∀ c ∈ SL RX12 471 71 kf, c ∈ flatC (Jvm.Cond.and given_1 narrow_1)) ∧ ∀ c ∈ SL RX12 950 63 tf, c ∈ flatC (Jvm.Cond.and given_1 narrow_1) := ⟨mem_f _ [319, 320, 321, 322, 323, 324, 325, 326, 327, 328, 329, 330, 331, 332, 333, 334, 335, 336, 337, 338, 339, 340, 341, 342, 343, 344, 345, 346, 347, 348, 349, 350, 351, 352, 353, 354, 355, 356, 357, 358, 359, 360, 361, 362, 363, 364, 365, 366, 367, 368, 369, 370, 371, 372, 373, 374, 375, 376, 377, 378, 379, 380, 381, 382, 383, 384, 385, 386, 387, 388, 389, 390, 391, 392, 393] (by decide +kernel), mem_f _ [395, 396, 397, 398, 399, 400, 401, 402, 403, 404, 405, 406, 407, 408, 409, 410, 411, 412, 413, 414, 415, 416, 417, 418, 419, 420, 421, 422, 423, 424, 425, 426, 427, 428, 429, 430, 431, 432, 433, 434, 435, 436, 437, 438, 439, 440, 441, 442, 443, 444, 445, 446, 447, 448, 449, 450, 451, 452, 453, 454, 455, 456, 457, 458, 459, 460, 461] (by decide +kernel)⟩
set_option maxRecDepth 100000 in
theorem sl_mrf : ∀ w ∈ ([.stringRef RX12 471 "set param var whole from to row or if and not in sum different min max ", .stringRef RX12 950 "var x whole from to row r : or <= >= = different , ; min max * "] : List Cond), w ∈ lw_tbl := mem_p _ [(12, 168), (15, 27)] (by decide +kernel)
set_option maxHeartbeats 4000000 in
set_option maxRecDepth 100000 in
theorem lw_env {p : Program} {s : State} {m : MethodId} {meth : Method} {c : Code} {b L : Nat} {xs : Nat → Int32} (C0 : lw_At p s m meth c b L xs) {A : Nat → Prop} (hno : ∀ a : Nat, a < s.heap.size → ¬ A a) : CE A s s.heap ∧ StrA A s s.heap ∧ NcE s := by
  obtain ⟨hx, hb, hr, hml, hown, hts, hX, hbl, hlocks, hgv⟩ := id C0
  have hfl := flat_of_before _ hgv
  have hJ : JdkE A s s.heap := ⟨va_Zof (args := #[Value.ref b]) (by (first | exact hts _ (by decide +kernel) | exact flat_of_before _ hgv _ (by decide +kernel))) (by (first | exact hts _ (by decide +kernel) | exact flat_of_before _ hgv _ (by decide +kernel))) (va_eqt (by (first | exact hts _ (by decide +kernel) | exact flat_of_before _ hgv _ (by decide +kernel)))) hno, va_Zqof (args := #[Value.ref b]) (by (first | exact hts _ (by decide +kernel) | exact flat_of_before _ hgv _ (by decide +kernel))) (by (first | exact hts _ (by decide +kernel) | exact flat_of_before _ hgv _ (by decide +kernel))) (by (first | exact hts _ (by decide +kernel) | exact flat_of_before _ hgv _ (by decide +kernel))) hno⟩
  refine ⟨⟨hJ, ⟨(vx_Zqof (args := #[Value.ref b]) (by (first | exact hts _ (by decide +kernel) | exact flat_of_before _ hgv _ (by decide +kernel))) (by (first | exact hts _ (by decide +kernel) | exact flat_of_before _ hgv _ (by decide +kernel))) (by (first | exact hts _ (by decide +kernel) | exact flat_of_before _ hgv _ (by decide +kernel))) hno), (vx_Zqof (args := #[Value.ref b]) (by (first | exact hts _ (by decide +kernel) | exact flat_of_before _ hgv _ (by decide +kernel))) (by (first | exact hts _ (by decide +kernel) | exact flat_of_before _ hgv _ (by decide +kernel))) (by (first | exact hts _ (by decide +kernel) | exact flat_of_before _ hgv _ (by decide +kernel))) hno)⟩, ⟨(fun w h => va_Nw.of (ngX9_33_ot w h) (hts w ((show ∀ w ∈ ngX9_33, w ∈ lw_tbl by decide +kernel) w h))), (fun w h => va_Nw.of (ngX11_161_ot w h) (hts w ((show ∀ w ∈ ngX11_161, w ∈ lw_tbl by decide +kernel) w h))), (fun w h => va_Nw.of (ngX11_79_ot w h) (hts w ((show ∀ w ∈ ngX11_79, w ∈ lw_tbl by decide +kernel) w h))), (fun w h => va_Nw.of (ngX11_95_ot w h) (hts w ((show ∀ w ∈ ngX11_95, w ∈ lw_tbl by decide +kernel) w h))), ⟨(fun w h => va_Nw.of (ngN_ot w h) (hts w ((show ∀ w ∈ ngN, w ∈ lw_tbl by decide +kernel) w h))), va_AO.of (A := #[Value.ref b]) (by (first | exact hts _ (by decide +kernel) | exact flat_of_before _ hgv _ (by decide +kernel)))⟩⟩, fun i x hx => ?_⟩, ⟨?_, ?_⟩, ⟨va_Nc.of (flat_of_before _ hgv _ (by decide +kernel)), va_Nc.of (flat_of_before _ hgv _ (by decide +kernel)), va_Nc.of (flat_of_before _ hgv _ (by decide +kernel))⟩⟩
  · have hm := List.mem_of_getElem? hx
    obtain ⟨h1, h2⟩ := sl_cls x hm
    exact str_of hJ h2 (hts _ (sl_ref _ (List.mem_map.mpr ⟨x, hm, rfl⟩))) (fun c hc => hfl c (h1 c hc)) hno
  · exact str_of hJ (by decide) (hts _ (sl_mrf _ (List.mem_of_getElem? (i := 0) rfl))) (fun c hc => hfl c (sl_mod.1 c hc)) hno
  · exact str_of hJ (by decide) (hts _ (sl_mrf _ (List.mem_of_getElem? (i := 1) rfl))) (fun c hc => hfl c (sl_mod.2 c hc)) hno

theorem il_0 : ∀ w ∈ wsX00, w ∈ lw_tbl := by decide +kernel
theorem il_1 : ∀ w ∈ wsX10, w ∈ lw_tbl := by decide +kernel
theorem il_2 : ∀ w ∈ wsX20, w ∈ lw_tbl := by decide +kernel
theorem il_3 : ∀ w ∈ wsX30, w ∈ lw_tbl := by decide +kernel
theorem il_4 : ∀ w ∈ wsX40, w ∈ lw_tbl := by decide +kernel
theorem il_5 : ∀ w ∈ wsX50, w ∈ lw_tbl := by decide +kernel
theorem il_6 : ∀ w ∈ wsX60, w ∈ lw_tbl := by decide +kernel
theorem il_7 : ∀ w ∈ wsX70, w ∈ lw_tbl := by decide +kernel
theorem il_8 : ∀ w ∈ wsX80, w ∈ lw_tbl := by decide +kernel
theorem il_9 : ∀ w ∈ wsX90, w ∈ lw_tbl := by decide +kernel
theorem il_10 : ∀ w ∈ wsX100, w ∈ lw_tbl := by decide +kernel
theorem il_11 : ∀ w ∈ wsX110, w ∈ lw_tbl := by decide +kernel
theorem il_12 : ∀ w ∈ wsX120, w ∈ lw_tbl := by decide +kernel
theorem dL_law_0 : decode cL_law 0 = .ok (.new 8, 3) := by decide +kernel
theorem dL_law_3 : decode cL_law 3 = .ok (.dup, 1) := by decide +kernel
theorem dL_law_4 : decode cL_law 4 = .ok (.invokespecial 88, 3) := by decide +kernel
theorem dL_law_7 : decode cL_law 7 = .ok (.astore_n 1, 1) := by decide +kernel
theorem dL_law_8 : decode cL_law 8 = .ok (.new 89, 3) := by decide +kernel
theorem dL_law_11 : decode cL_law 11 = .ok (.dup, 1) := by decide +kernel
theorem dL_law_12 : decode cL_law 12 = .ok (.invokespecial 91, 3) := by decide +kernel
theorem dL_law_15 : decode cL_law 15 = .ok (.astore_n 2, 1) := by decide +kernel
theorem dL_law_16 : decode cL_law 16 = .ok (.iconst 1, 1) := by decide +kernel
theorem dL_law_17 : decode cL_law 17 = .ok (.newarray .long, 2) := by decide +kernel
theorem dL_law_19 : decode cL_law 19 = .ok (.astore_n 3, 1) := by decide +kernel
theorem dL_law_20 : decode cL_law 20 = .ok (.iconst 0, 1) := by decide +kernel
theorem dL_law_21 : decode cL_law 21 = .ok (.istore 4, 2) := by decide +kernel
theorem dL_law_33 : decode cL_law 33 = .ok (.aload_n 0, 1) := by decide +kernel
theorem dL_law_34 : decode cL_law 34 = .ok (.iload 4, 2) := by decide +kernel
theorem dL_law_36 : decode cL_law 36 = .ok (.iaload, 1) := by decide +kernel
theorem dL_law_37 : decode cL_law 37 = .ok (.bipush 63, 2) := by decide +kernel
theorem dL_law_39 : decode cL_law 39 = .ok (.iand, 1) := by decide +kernel
theorem dL_law_40 : decode cL_law 40 = .ok (.tableswitch 2091 0 38 #[172, 243, 268, 279, 323, 348, 416, 496, 592, 636, 715, 771, 827, 883, 927, 995, 1039, 1076, 1132, 1157, 1182, 1238, 1330, 1367, 1392, 1405, 1442, 1479, 1490, 1570, 1583, 1608, 1700, 1713, 1781, 1849, 1929, 2009, 2023], 172) := by decide +kernel
theorem gw_11 : GoodIn lw_tbl wsX11_init := goodIn_sub (by decide +kernel) (by decide +kernel)
theorem gw_12 : GoodIn lw_tbl wsX12_init := goodIn_sub (by decide +kernel) (by decide +kernel)
set_option maxRecDepth 100000 in
theorem lx_of {p : Program} {s : State} {m : MethodId} {meth : Method} {c : Code} {b L : Nat} {xs : Nat → Int32} (C0 : lw_At p s m meth c b L xs) {A : Nat → Prop} (hno : ∀ a : Nat, a < s.heap.size → ¬ A a) : lx_ok A s := by
  obtain ⟨hx, hb, hr, hml, hown, hts, hX, hbl, hlocks, hgv⟩ := id C0
  exact ⟨(vx_Zqof (args := #[Value.ref b]) (by (first | exact hts _ (by decide +kernel) | exact flat_of_before _ hgv _ (by decide +kernel))) (by (first | exact hts _ (by decide +kernel) | exact flat_of_before _ hgv _ (by decide +kernel))) (by (first | exact hts _ (by decide +kernel) | exact flat_of_before _ hgv _ (by decide +kernel))) hno), (vx_Zqof (args := #[Value.ref b]) (by (first | exact hts _ (by decide +kernel) | exact flat_of_before _ hgv _ (by decide +kernel))) (by (first | exact hts _ (by decide +kernel) | exact flat_of_before _ hgv _ (by decide +kernel))) (by (first | exact hts _ (by decide +kernel) | exact flat_of_before _ hgv _ (by decide +kernel))) hno), (va_Nw.of rfl (hts _ (by decide +kernel))), (va_Nw.of rfl (hts _ (by decide +kernel))), (va_Nw.of rfl (hts _ (by decide +kernel))), (va_Nc.of (flat_of_before _ hgv _ (by decide +kernel))), (fun w h => va_Nw.of (ngX11_161_ot w h) (hts w ((show ∀ w ∈ ngX11_161, w ∈ lw_tbl by decide +kernel) w h))), (fun w h => va_Nw.of (ngX11_79_ot w h) (hts w ((show ∀ w ∈ ngX11_79, w ∈ lw_tbl by decide +kernel) w h))), (fun w h => va_Nw.of (ngX11_95_ot w h) (hts w ((show ∀ w ∈ ngX11_95, w ∈ lw_tbl by decide +kernel) w h)))⟩

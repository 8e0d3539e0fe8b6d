/-! Integer.bitCount -/
def tbcU (x y : Int32) : Int32 := ((x).toUInt32 >>> ((y).toUInt32 &&& Int32.toUInt32 31)).toInt32
def tbc1 (x : Int32) : Int32 := x - (tbcU x 1 &&& (1431655765 : Int32))
def tbc2 (x : Int32) : Int32 := (tbc1 x &&& (858993459 : Int32)) + (tbcU (tbc1 x) 2 &&& (858993459 : Int32))
def tbc3 (x : Int32) : Int32 := (tbc2 x + tbcU (tbc2 x) 4) &&& (252645135 : Int32)
def tbc4 (x : Int32) : Int32 := tbc3 x + tbcU (tbc3 x) 8
def tbc5 (x : Int32) : Int32 := tbc4 x + tbcU (tbc4 x) 16
def tbcF (x : Int32) : Int32 := tbc5 x &&& (63 : Int32)
theorem tbc_all : ((List.range 4096).all (fun x => decide (tbcF (nI x) = nI (cnt x 12)))) = true := by decide +kernel
theorem tbc_t {x : Int32} (h0 : 0 ≤ x.toInt) (h1 : x.toInt ≤ 4095) : (tbcF x).toInt = (cntB (bI x) 12 : Int) := by
  obtain ⟨n, hn, e⟩ := of_toInt (x := x) (k := 4096) h0 (by omega)
  have h2 : tbcF (nI n) = nI (cnt n 12) := of_decide_eq_true (List.all_eq_true.mp tbc_all n (List.mem_range.mpr hn))
  have h3 := cnt_le n 12
  rw [e, h2, nI_toInt (by omega), cnt_B (Nat.le_refl _)]

/-- the words of a throw that are no good ones: they stay all the same -/
def isCD : Cond → Bool
  | .castable _ _ => true
  | .declares _ => true
  | _ => false
theorem cd_warm {w : Cond} (hc : isCD w = true) {s U : State} (hW : s.WarmedH U.vm) (h : va_Nw w s) : va_Nw w U := by
  cases w <;> first | exact va_Nw.warmC hW h | exact va_Nw.warmD hW h | (simp [isCD] at hc)

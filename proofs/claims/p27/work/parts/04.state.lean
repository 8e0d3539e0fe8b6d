/-- a function changed at one place -/
def mUp (v : Nat → Value) (k : Nat) (x : Value) : Nat → Value := fun j => cond (Nat.beq j k) x (v j)
/-- the fields of the reference, by a function of their numbers -/
def fM (v : Nat → Value) : List Value := [v 0, v 1, v 2, v 3, v 4, v 5, v 6, v 7, v 8, v 9, v 10, v 11, v 12, v 13, v 14, v 15, v 16, v 17, v 18, v 19, v 20, v 21, v 22, v 23, v 24, v 25, v 26, v 27, v 28, v 29, v 30, v 31, v 32, v 33, v 34, v 35, v 36, v 37, v 38, v 39, v 40, v 41, v 42, v 43, v 44, v 45, v 46, v 47, v 48, v 49, v 50, v 51, v 52, v 53, v 54, v 55, v 56, v 57, v 58, v 59, v 60, v 61, v 62, v 63, v 64, v 65, v 66, v 67, v 68, v 69, v 70, v 71, v 72, v 73, v 74, v 75, v 76, v 77, v 78, v 79, v 80, v 81, v 82, v 83, v 84, v 85, v 86, v 87, v 88, v 89, v 90, v 91, v 92, v 93, v 94, v 95, v 96, v 97, v 98, v 99, v 100, v 101, v 102, v 103, v 104, v 105, v 106, v 107, v 108, v 109, v 110, v 111, v 112, v 113, v 114, v 115, v 116, v 117, v 118, v 119, v 120, v 121, v 122, v 123, v 124, v 125, v 126, v 127, v 128, v 129, v 130, v 131, v 132, v 133, v 134, v 135, v 136, v 137, v 138, v 139, v 140, v 141, v 142, v 143, v 144, v 145, v 146, v 147, v 148, v 149, v 150, v 151, v 152, v 153, v 154, v 155, v 156, v 157, v 158, v 159, v 160, v 161, v 162]
def v0M : Nat → Value := fun k => defaultValue (tyX12 k)
set_option maxRecDepth 20000 in
theorem fM_map (v : Nat → Value) : fM v = (List.range 163).map v := rfl
set_option maxRecDepth 20000 in
theorem fM_len (v : Nat → Value) : (fM v).length = 163 := rfl
set_option maxRecDepth 20000 in
theorem mSet (v : Nat → Value) (k : Nat) (x : Value) : (fM v).set k x = fM (mUp v k x) := by
  rw [fM_map, fM_map]
  apply List.ext_getElem?
  intro i
  rw [List.getElem?_set]
  rcases Nat.lt_or_ge i 163 with hi | hi
  · by_cases hik : k = i
    · subst hik
      simp [hi, mUp]
    · have hki : Nat.beq i k = false := by
        cases h : Nat.beq i k with
        | false => rfl
        | true => exact absurd (Nat.eq_of_beq_eq_true h).symm hik
      simp [hi, hik, mUp, hki]
  · have h1 : ¬ i < 163 := by omega
    simp [h1, hi]
    intro h2
    omega
def arrM : Nat → vp_A := fun j => match j with
  | 0 => (26400, .inl (fun _ => 0))
  | 1 => (48, .inr (.inl (fun _ => 0)))
  | 2 => (60, .inl (fun _ => 0))
  | 3 => (30, .inl (fun _ => 0))
  | 4 => (46, .inl (fun _ => 0))
  | 5 => (60, .inl (fun _ => 0))
  | 6 => (46, .inl (fun _ => 0))
  | 7 => (1000, .inr (.inl (fun _ => 0)))
  | 8 => (1000, .inr (.inl (fun _ => 0)))
  | 9 => (4000, .inl (fun _ => 0))
  | 10 => (44, .inl (fun _ => 0))
  | 11 => (44, .inl (fun _ => 0))
  | 12 => (44, .inl (fun _ => 0))
  | 13 => (44, .inl (fun _ => 0))
  | 14 => (60, .inl (fun _ => 0))
  | 15 => (60, .inl (fun _ => 0))
  | 16 => (44, .inl (fun _ => 0))
  | 17 => (44, .inl (fun _ => 0))
  | 18 => (44, .inl (fun _ => 0))
  | 19 => (44, .inl (fun _ => 0))
  | 20 => (44, .inl (fun _ => 0))
  | 21 => (44, .inl (fun _ => 0))
  | 22 => (6400, .inl (fun _ => 0))
  | 23 => (6400, .inl (fun _ => 0))
  | 24 => (44, .inl (fun _ => 0))
  | 25 => (44, .inl (fun _ => 0))
  | 26 => (44, .inl (fun _ => 0))
  | 27 => (44, .inl (fun _ => 0))
  | 28 => (44, .inl (fun _ => 0))
  | 29 => (4200, .inl (fun _ => 0))
  | 30 => (4200, .inl (fun _ => 0))
  | 31 => (4200, .inl (fun _ => 0))
  | 32 => (4200, .inl (fun _ => 0))
  | 33 => (4200, .inl (fun _ => 0))
  | 34 => (4200, .inl (fun _ => 0))
  | 35 => (4200, .inl (fun _ => 0))
  | 36 => (900, .inl (fun _ => 0))
  | 37 => (900, .inl (fun _ => 0))
  | 38 => (900, .inl (fun _ => 0))
  | 39 => (120, .inl (fun _ => 0))
  | 40 => (120, .inl (fun _ => 0))
  | 41 => (120, .inl (fun _ => 0))
  | 42 => (120, .inl (fun _ => 0))
  | 43 => (120, .inl (fun _ => 0))
  | 44 => (120, .inl (fun _ => 0))
  | 45 => (120, .inl (fun _ => 0))
  | 46 => (120, .inl (fun _ => 0))
  | 47 => (120, .inl (fun _ => 0))
  | 48 => (120, .inl (fun _ => 0))
  | 49 => (900, .inl (fun _ => 0))
  | 50 => (900, .inl (fun _ => 0))
  | 51 => (60, .inl (fun _ => 0))
  | 52 => (4300, .inl (fun _ => 0))
  | 53 => (4300, .inl (fun _ => 0))
  | 54 => (4300, .inl (fun _ => 0))
  | 55 => (4300, .inl (fun _ => 0))
  | 56 => (9, .inl (fun _ => 0))
  | 57 => (9, .inl (fun _ => 0))
  | 58 => (9, .inl (fun _ => 0))
  | 59 => (13, .inl (fun _ => 0))
  | 60 => (351, .inl (fun _ => 0))
  | 61 => (39, .inl (fun _ => 0))
  | 62 => (9, .inl (fun _ => 0))
  | 63 => (27, .inl (fun _ => 0))
  | 64 => (27, .inl (fun _ => 0))
  | 65 => (3, .inl (fun _ => 0))
  | 66 => (200, .inl (fun _ => 0))
  | 67 => (200, .inl (fun _ => 0))
  | 68 => (8, .inl (fun _ => 0))
  | 69 => (13, .inl (fun _ => 0))
  | 70 => (9, .inl (fun _ => 0))
  | 71 => (28, .inl (fun _ => 0))
  | 72 => (28, .inl (fun _ => 0))
  | 73 => (28, .inl (fun _ => 0))
  | 74 => (28, .inl (fun _ => 0))
  | 75 => (30000, .inl (fun _ => 0))
  | 76 => (250, .inl (fun _ => 0))
  | 77 => (20, .inl (fun _ => 0))
  | 78 => (10, .inl (fun _ => 0))
  | 79 => (10, .inl (fun _ => 0))
  | 80 => (12, .inl (fun _ => 0))
  | 81 => (12, .inl (fun _ => 0))
  | 82 => (12, .inl (fun _ => 0))
  | 83 => (12, .inl (fun _ => 0))
  | 84 => (192, .inl (fun _ => 0))
  | 85 => (16, .inl (fun _ => 0))
  | 86 => (10, .inl (fun _ => 0))
  | 87 => (16, .inl (fun _ => 0))
  | 88 => (16, .inl (fun _ => 0))
  | 89 => (17, .inl (fun _ => 0))
  | 90 => (10, .inl (fun _ => 0))
  | 91 => (50000, .inl (fun _ => 0))
  | 92 => (24, .inl (fun _ => 0))
  | 93 => (24, .inl (fun _ => 0))
  | 94 => (24, .inl (fun _ => 0))
  | 95 => (40, .inl (fun _ => 0))
  | 96 => (40, .inl (fun _ => 0))
  | 97 => (40, .inl (fun _ => 0))
  | 98 => (40, .inl (fun _ => 0))
  | 99 => (40, .inl (fun _ => 0))
  | 100 => (12, .inl (fun _ => 0))
  | 101 => (12, .inl (fun _ => 0))
  | 102 => (12, .inl (fun _ => 0))
  | 103 => (12, .inl (fun _ => 0))
  | 104 => (8, .inl (fun _ => 0))
  | 105 => (8, .inl (fun _ => 0))
  | _ => (8, .inl (fun _ => 0))
def arT : Nat → FieldType := fun j => match j with
  | 0 => .int
  | 1 => .long
  | 2 => .int
  | 3 => .int
  | 4 => .int
  | 5 => .int
  | 6 => .boolean
  | 7 => .long
  | 8 => .long
  | 9 => .byte
  | 10 => .int
  | 11 => .int
  | 12 => .int
  | 13 => .int
  | 14 => .int
  | 15 => .int
  | 16 => .int
  | 17 => .int
  | 18 => .int
  | 19 => .int
  | 20 => .int
  | 21 => .int
  | 22 => .int
  | 23 => .int
  | 24 => .int
  | 25 => .int
  | 26 => .int
  | 27 => .int
  | 28 => .int
  | 29 => .int
  | 30 => .int
  | 31 => .int
  | 32 => .int
  | 33 => .int
  | 34 => .int
  | 35 => .int
  | 36 => .int
  | 37 => .int
  | 38 => .int
  | 39 => .int
  | 40 => .int
  | 41 => .int
  | 42 => .int
  | 43 => .int
  | 44 => .int
  | 45 => .int
  | 46 => .int
  | 47 => .int
  | 48 => .int
  | 49 => .int
  | 50 => .int
  | 51 => .int
  | 52 => .int
  | 53 => .int
  | 54 => .int
  | 55 => .int
  | 56 => .int
  | 57 => .int
  | 58 => .int
  | 59 => .int
  | 60 => .int
  | 61 => .int
  | 62 => .int
  | 63 => .int
  | 64 => .int
  | 65 => .int
  | 66 => .int
  | 67 => .int
  | 68 => .int
  | 69 => .int
  | 70 => .int
  | 71 => .int
  | 72 => .int
  | 73 => .int
  | 74 => .int
  | 75 => .byte
  | 76 => .int
  | 77 => .int
  | 78 => .int
  | 79 => .int
  | 80 => .int
  | 81 => .int
  | 82 => .int
  | 83 => .int
  | 84 => .int
  | 85 => .int
  | 86 => .int
  | 87 => .int
  | 88 => .int
  | 89 => .int
  | 90 => .int
  | 91 => .int
  | 92 => .int
  | 93 => .int
  | 94 => .int
  | 95 => .int
  | 96 => .int
  | 97 => .int
  | 98 => .int
  | 99 => .int
  | 100 => .int
  | 101 => .int
  | 102 => .int
  | 103 => .int
  | 104 => .int
  | 105 => .int
  | _ => .int
def upF {α : Type} (f : Nat → α) (t : Nat) (x : α) : Nat → α := fun j => cond (Nat.beq j t) x (f j)
theorem upF_ne {α : Type} {f : Nat → α} {t j : Nat} {x : α} (h : j < t) : upF f t x j = f j := by
  have hk : Nat.beq j t = false := by
    cases e : Nat.beq j t with
    | false => rfl
    | true => exact absurd (Nat.eq_of_beq_eq_true e) (Nat.ne_of_lt h)
  simp [upF, hk]
theorem upF_eq {α : Type} {f : Nat → α} {t : Nat} {x : α} : upF f t x t = x := by simp [upF]
def cellM (a : Nat → Nat) (k : Nat → ClassId) (j : Nat) : Nat × va_E := (a j, .inl (k j, arrM j))
def tyM (k : Nat → ClassId) (j : Nat) : ClassId × FieldType := (k j, arT j)
theorem growX (a : Nat → Nat) (k : Nat → ClassId) (t q : Nat) (cA : ClassId) : (List.range (t + 1)).map (cellM (upF a t q) (upF k t cA)) = (List.range t).map (cellM a k) ++ [(q, .inl (cA, arrM t))] := by
  rw [List.range_succ, List.map_append]
  congr 1
  · apply List.map_congr_left
    intro j hj
    have h : j < t := List.mem_range.mp hj
    simp [cellM, upF_ne h]
  · simp [cellM, upF_eq]
theorem growT (k : Nat → ClassId) (t : Nat) (cA : ClassId) : (List.range (t + 1)).map (tyM (upF k t cA)) = (List.range t).map (tyM k) ++ [(cA, arT t)] := by
  rw [List.range_succ, List.map_append]
  congr 1
  · apply List.map_congr_left
    intro j hj
    have h : j < t := List.mem_range.mp hj
    simp [tyM, upF_ne h]
  · simp [tyM, upF_eq]
def vM (a : Nat → Nat) : Nat → Value := fun k => match k with
  | 0 => .int 0
  | 1 => .ref (a 0)
  | 2 => .ref (a 1)
  | 3 => .ref (a 2)
  | 4 => .ref (a 3)
  | 5 => .int 0
  | 6 => .int 0
  | 7 => .int 0
  | 8 => .ref (a 4)
  | 9 => .ref (a 5)
  | 10 => .ref (a 6)
  | 11 => .int 0
  | 12 => .long 0
  | 13 => .ref (a 7)
  | 14 => .ref (a 8)
  | 15 => .ref (a 9)
  | 16 => .int 0
  | 17 => .int 0
  | 18 => .int 0
  | 19 => .int 0
  | 20 => .int 0
  | 21 => .int 0
  | 22 => .int (-1)
  | 23 => .int 0
  | 24 => .int (-1)
  | 25 => .int 0
  | 26 => .ref (a 10)
  | 27 => .ref (a 11)
  | 28 => .ref (a 12)
  | 29 => .ref (a 13)
  | 30 => .int 0
  | 31 => .ref (a 14)
  | 32 => .ref (a 15)
  | 33 => .int (-1)
  | 34 => .int 0
  | 35 => .int 0
  | 36 => .int 0
  | 37 => .int 0
  | 38 => .int 0
  | 39 => .ref (a 16)
  | 40 => .ref (a 17)
  | 41 => .ref (a 18)
  | 42 => .ref (a 19)
  | 43 => .ref (a 20)
  | 44 => .ref (a 21)
  | 45 => .ref (a 22)
  | 46 => .ref (a 23)
  | 47 => .ref (a 24)
  | 48 => .ref (a 25)
  | 49 => .ref (a 26)
  | 50 => .ref (a 27)
  | 51 => .ref (a 28)
  | 52 => .int 0
  | 53 => .ref (a 29)
  | 54 => .ref (a 30)
  | 55 => .ref (a 31)
  | 56 => .ref (a 32)
  | 57 => .ref (a 33)
  | 58 => .ref (a 34)
  | 59 => .ref (a 35)
  | 60 => .int 0
  | 61 => .ref (a 36)
  | 62 => .ref (a 37)
  | 63 => .ref (a 38)
  | 64 => .ref (a 39)
  | 65 => .ref (a 40)
  | 66 => .ref (a 41)
  | 67 => .ref (a 42)
  | 68 => .ref (a 43)
  | 69 => .ref (a 44)
  | 70 => .ref (a 45)
  | 71 => .ref (a 46)
  | 72 => .ref (a 47)
  | 73 => .ref (a 48)
  | 74 => .int 0
  | 75 => .int 0
  | 76 => .int 0
  | 77 => .int 0
  | 78 => .ref (a 49)
  | 79 => .ref (a 50)
  | 80 => .ref (a 51)
  | 81 => .int 0
  | 82 => .int 0
  | 83 => .int 0
  | 84 => .int 0
  | 85 => .ref (a 52)
  | 86 => .ref (a 53)
  | 87 => .ref (a 54)
  | 88 => .ref (a 55)
  | 89 => .int 0
  | 90 => .int 0
  | 91 => .int 0
  | 92 => .int 0
  | 93 => .int 0
  | 94 => .int 0
  | 95 => .int 0
  | 96 => .ref (a 56)
  | 97 => .ref (a 57)
  | 98 => .ref (a 58)
  | 99 => .ref (a 59)
  | 100 => .ref (a 60)
  | 101 => .ref (a 61)
  | 102 => .ref (a 62)
  | 103 => .ref (a 63)
  | 104 => .ref (a 64)
  | 105 => .ref (a 65)
  | 106 => .ref (a 66)
  | 107 => .ref (a 67)
  | 108 => .ref (a 68)
  | 109 => .int 0
  | 110 => .int 0
  | 111 => .int 0
  | 112 => .int 0
  | 113 => .int 0
  | 114 => .ref (a 69)
  | 115 => .ref (a 70)
  | 116 => .int 0
  | 117 => .int 0
  | 118 => .int 0
  | 119 => .int 0
  | 120 => .ref (a 71)
  | 121 => .ref (a 72)
  | 122 => .ref (a 73)
  | 123 => .ref (a 74)
  | 124 => .ref (a 75)
  | 125 => .int 0
  | 126 => .ref (a 76)
  | 127 => .ref (a 77)
  | 128 => .int 0
  | 129 => .int 0
  | 130 => .ref (a 78)
  | 131 => .ref (a 79)
  | 132 => .ref (a 80)
  | 133 => .ref (a 81)
  | 134 => .ref (a 82)
  | 135 => .ref (a 83)
  | 136 => .ref (a 84)
  | 137 => .ref (a 85)
  | 138 => .int 0
  | 139 => .ref (a 86)
  | 140 => .ref (a 87)
  | 141 => .ref (a 88)
  | 142 => .ref (a 89)
  | 143 => .ref (a 90)
  | 144 => .ref (a 91)
  | 145 => .int (-1)
  | 146 => .int 0
  | 147 => .ref (a 92)
  | 148 => .ref (a 93)
  | 149 => .ref (a 94)
  | 150 => .int 0
  | 151 => .ref (a 95)
  | 152 => .ref (a 96)
  | 153 => .ref (a 97)
  | 154 => .ref (a 98)
  | 155 => .ref (a 99)
  | 156 => .ref (a 100)
  | 157 => .ref (a 101)
  | 158 => .ref (a 102)
  | 159 => .ref (a 103)
  | 160 => .ref (a 104)
  | 161 => .ref (a 105)
  | _ => .ref (a 106)
def LM (a : Nat → Nat) : List Value := [.int 0, .ref (a 0), .ref (a 1), .ref (a 2), .ref (a 3), .int 0, .int 0, .int 0, .ref (a 4), .ref (a 5), .ref (a 6), .int 0, .long 0, .ref (a 7), .ref (a 8), .ref (a 9), .int 0, .int 0, .int 0, .int 0, .int 0, .int 0, .int (-1), .int 0, .int (-1), .int 0, .ref (a 10), .ref (a 11), .ref (a 12), .ref (a 13), .int 0, .ref (a 14), .ref (a 15), .int (-1), .int 0, .int 0, .int 0, .int 0, .int 0, .ref (a 16), .ref (a 17), .ref (a 18), .ref (a 19), .ref (a 20), .ref (a 21), .ref (a 22), .ref (a 23), .ref (a 24), .ref (a 25), .ref (a 26), .ref (a 27), .ref (a 28), .int 0, .ref (a 29), .ref (a 30), .ref (a 31), .ref (a 32), .ref (a 33), .ref (a 34), .ref (a 35), .int 0, .ref (a 36), .ref (a 37), .ref (a 38), .ref (a 39), .ref (a 40), .ref (a 41), .ref (a 42), .ref (a 43), .ref (a 44), .ref (a 45), .ref (a 46), .ref (a 47), .ref (a 48), .int 0, .int 0, .int 0, .int 0, .ref (a 49), .ref (a 50), .ref (a 51), .int 0, .int 0, .int 0, .int 0, .ref (a 52), .ref (a 53), .ref (a 54), .ref (a 55), .int 0, .int 0, .int 0, .int 0, .int 0, .int 0, .int 0, .ref (a 56), .ref (a 57), .ref (a 58), .ref (a 59), .ref (a 60), .ref (a 61), .ref (a 62), .ref (a 63), .ref (a 64), .ref (a 65), .ref (a 66), .ref (a 67), .ref (a 68), .int 0, .int 0, .int 0, .int 0, .int 0, .ref (a 69), .ref (a 70), .int 0, .int 0, .int 0, .int 0, .ref (a 71), .ref (a 72), .ref (a 73), .ref (a 74), .ref (a 75), .int 0, .ref (a 76), .ref (a 77), .int 0, .int 0, .ref (a 78), .ref (a 79), .ref (a 80), .ref (a 81), .ref (a 82), .ref (a 83), .ref (a 84), .ref (a 85), .int 0, .ref (a 86), .ref (a 87), .ref (a 88), .ref (a 89), .ref (a 90), .ref (a 91), .int (-1), .int 0, .ref (a 92), .ref (a 93), .ref (a 94), .int 0, .ref (a 95), .ref (a 96), .ref (a 97), .ref (a 98), .ref (a 99), .ref (a 100), .ref (a 101), .ref (a 102), .ref (a 103), .ref (a 104), .ref (a 105), .ref (a 106)]
set_option maxRecDepth 20000 in
theorem LM_eq (a : Nat → Nat) : LM a = fM (vM a) := rfl
def aM (a : Nat → Nat) (k : Nat → ClassId) : va_W := (List.range 107).map (cellM a k)
def wX12 (a : Nat → Nat) (k : Nat → ClassId) (h0 : Nat) : va_W := (h0, .inr (12, fM (vM a))) :: aM a k
def tX12 (k : Nat → ClassId) : List (ClassId × FieldType) := (List.range 107).map (tyM k)
def a0M : Nat → Nat := fun _ => 0
def k0M : Nat → ClassId := fun _ => 0
set_option maxHeartbeats 4000000 in
set_option maxRecDepth 100000 in
theorem eM1 (q8 q16 q24 q32 q40 q48 q56 q65 q74 q83 q101 q109 q117 q125 q133 q141 q154 q162 q170 q178 q186 q194 q203 q212 q220 q228 q236 q244 q252 q261 q270 q279 q288 q297 q306 q315 q324 q333 q342 q350 q358 q366 q374 q382 q390 q398 q406 q414 q422 q431 q440 q448 q457 q466 q475 q484 q492 q500 q508 q516 q525 q533 q541 q549 q557 q564 q573 q582 q590 q598 q606 q614 q622 q630 q638 q647 q656 q664 q672 q680 q688 q696 q704 q712 q721 q729 q737 q745 q753 q761 q769 q778 q791 q799 q807 q815 q823 q831 q839 q847 q855 q863 q871 q879 q887 q895 q903 : Nat) : fM (mUp (mUp (mUp (mUp (mUp (mUp (mUp (mUp (mUp (mUp (mUp (mUp (mUp (mUp (mUp (mUp (mUp (mUp (mUp (mUp (mUp (mUp (mUp (mUp (mUp (mUp (mUp (mUp (mUp (mUp (mUp (mUp (mUp (mUp (mUp (mUp (mUp (mUp (mUp (mUp (mUp (mUp (mUp (mUp (mUp (mUp (mUp (mUp (mUp (mUp (mUp (mUp (mUp (mUp (mUp (mUp (mUp (mUp (mUp (mUp (mUp (mUp (mUp (mUp (mUp (mUp (mUp (mUp (mUp (mUp (mUp (mUp (mUp (mUp (mUp (mUp (mUp (mUp (mUp (mUp (mUp (mUp (mUp (mUp (mUp (mUp (mUp (mUp (mUp (mUp (mUp (mUp (mUp (mUp (mUp (mUp (mUp (mUp (mUp (mUp (mUp (mUp (mUp (mUp (mUp (mUp (mUp (mUp (mUp (mUp (mUp v0M 1 (.ref q8)) 2 (.ref q16)) 3 (.ref q24)) 4 (.ref q32)) 8 (.ref q40)) 9 (.ref q48)) 10 (.ref q56)) 13 (.ref q65)) 14 (.ref q74)) 15 (.ref q83)) 22 (.int (-1))) 24 (.int (-1))) 26 (.ref q101)) 27 (.ref q109)) 28 (.ref q117)) 29 (.ref q125)) 31 (.ref q133)) 32 (.ref q141)) 33 (.int (-1))) 39 (.ref q154)) 40 (.ref q162)) 41 (.ref q170)) 42 (.ref q178)) 43 (.ref q186)) 44 (.ref q194)) 45 (.ref q203)) 46 (.ref q212)) 47 (.ref q220)) 48 (.ref q228)) 49 (.ref q236)) 50 (.ref q244)) 51 (.ref q252)) 53 (.ref q261)) 54 (.ref q270)) 55 (.ref q279)) 56 (.ref q288)) 57 (.ref q297)) 58 (.ref q306)) 59 (.ref q315)) 61 (.ref q324)) 62 (.ref q333)) 63 (.ref q342)) 64 (.ref q350)) 65 (.ref q358)) 66 (.ref q366)) 67 (.ref q374)) 68 (.ref q382)) 69 (.ref q390)) 70 (.ref q398)) 71 (.ref q406)) 72 (.ref q414)) 73 (.ref q422)) 78 (.ref q431)) 79 (.ref q440)) 80 (.ref q448)) 85 (.ref q457)) 86 (.ref q466)) 87 (.ref q475)) 88 (.ref q484)) 96 (.ref q492)) 97 (.ref q500)) 98 (.ref q508)) 99 (.ref q516)) 100 (.ref q525)) 101 (.ref q533)) 102 (.ref q541)) 103 (.ref q549)) 104 (.ref q557)) 105 (.ref q564)) 106 (.ref q573)) 107 (.ref q582)) 108 (.ref q590)) 114 (.ref q598)) 115 (.ref q606)) 120 (.ref q614)) 121 (.ref q622)) 122 (.ref q630)) 123 (.ref q638)) 124 (.ref q647)) 126 (.ref q656)) 127 (.ref q664)) 130 (.ref q672)) 131 (.ref q680)) 132 (.ref q688)) 133 (.ref q696)) 134 (.ref q704)) 135 (.ref q712)) 136 (.ref q721)) 137 (.ref q729)) 139 (.ref q737)) 140 (.ref q745)) 141 (.ref q753)) 142 (.ref q761)) 143 (.ref q769)) 144 (.ref q778)) 145 (.int (-1))) 147 (.ref q791)) 148 (.ref q799)) 149 (.ref q807)) 151 (.ref q815)) 152 (.ref q823)) 153 (.ref q831)) 154 (.ref q839)) 155 (.ref q847)) 156 (.ref q855)) 157 (.ref q863)) 158 (.ref q871)) 159 (.ref q879)) 160 (.ref q887)) 161 (.ref q895)) 162 (.ref q903)) = LM (upF (upF (upF (upF (upF (upF (upF (upF (upF (upF (upF (upF (upF (upF (upF (upF (upF (upF (upF (upF (upF (upF (upF (upF (upF (upF (upF (upF (upF (upF (upF (upF (upF (upF (upF (upF (upF (upF (upF (upF (upF (upF (upF (upF (upF (upF (upF (upF (upF (upF (upF (upF (upF (upF (upF (upF (upF (upF (upF (upF (upF (upF (upF (upF (upF (upF (upF (upF (upF (upF (upF (upF (upF (upF (upF (upF (upF (upF (upF (upF (upF (upF (upF (upF (upF (upF (upF (upF (upF (upF (upF (upF (upF (upF (upF (upF (upF (upF (upF (upF (upF (upF (upF (upF (upF (upF (upF a0M 0 q8) 1 q16) 2 q24) 3 q32) 4 q40) 5 q48) 6 q56) 7 q65) 8 q74) 9 q83) 10 q101) 11 q109) 12 q117) 13 q125) 14 q133) 15 q141) 16 q154) 17 q162) 18 q170) 19 q178) 20 q186) 21 q194) 22 q203) 23 q212) 24 q220) 25 q228) 26 q236) 27 q244) 28 q252) 29 q261) 30 q270) 31 q279) 32 q288) 33 q297) 34 q306) 35 q315) 36 q324) 37 q333) 38 q342) 39 q350) 40 q358) 41 q366) 42 q374) 43 q382) 44 q390) 45 q398) 46 q406) 47 q414) 48 q422) 49 q431) 50 q440) 51 q448) 52 q457) 53 q466) 54 q475) 55 q484) 56 q492) 57 q500) 58 q508) 59 q516) 60 q525) 61 q533) 62 q541) 63 q549) 64 q557) 65 q564) 66 q573) 67 q582) 68 q590) 69 q598) 70 q606) 71 q614) 72 q622) 73 q630) 74 q638) 75 q647) 76 q656) 77 q664) 78 q672) 79 q680) 80 q688) 81 q696) 82 q704) 83 q712) 84 q721) 85 q729) 86 q737) 87 q745) 88 q753) 89 q761) 90 q769) 91 q778) 92 q791) 93 q799) 94 q807) 95 q815) 96 q823) 97 q831) 98 q839) 99 q847) 100 q855) 101 q863) 102 q871) 103 q879) 104 q887) 105 q895) 106 q903) := rfl

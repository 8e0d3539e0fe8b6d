def lenR : Nat → Nat := fun j => match j with
  | 0 => 26400
  | 1 => 48
  | 2 => 60
  | 3 => 30
  | 4 => 46
  | 5 => 60
  | 6 => 46
  | 7 => 1000
  | 8 => 1000
  | 9 => 4000
  | 10 => 44
  | 11 => 44
  | 12 => 44
  | 13 => 44
  | 14 => 60
  | 15 => 60
  | 16 => 44
  | 17 => 44
  | 18 => 44
  | 19 => 44
  | 20 => 44
  | 21 => 44
  | 22 => 6400
  | 23 => 6400
  | 24 => 44
  | 25 => 44
  | 26 => 44
  | 27 => 44
  | 28 => 44
  | 29 => 4200
  | 30 => 4200
  | 31 => 4200
  | 32 => 4200
  | 33 => 4200
  | 34 => 4200
  | 35 => 4200
  | 36 => 900
  | 37 => 900
  | 38 => 900
  | 39 => 120
  | 40 => 120
  | 41 => 120
  | 42 => 120
  | 43 => 120
  | 44 => 120
  | 45 => 120
  | 46 => 120
  | 47 => 120
  | 48 => 120
  | 49 => 900
  | 50 => 900
  | 51 => 60
  | 52 => 4300
  | 53 => 4300
  | 54 => 4300
  | 55 => 4300
  | 56 => 9
  | 57 => 9
  | 58 => 9
  | 59 => 13
  | 60 => 351
  | 61 => 39
  | 62 => 9
  | 63 => 27
  | 64 => 27
  | 65 => 3
  | 66 => 200
  | 67 => 200
  | 68 => 8
  | 69 => 13
  | 70 => 9
  | 71 => 28
  | 72 => 28
  | 73 => 28
  | 74 => 28
  | 75 => 30000
  | 76 => 250
  | 77 => 20
  | 78 => 10
  | 79 => 10
  | 80 => 12
  | 81 => 12
  | 82 => 12
  | 83 => 12
  | 84 => 192
  | 85 => 16
  | 86 => 10
  | 87 => 16
  | 88 => 16
  | 89 => 17
  | 90 => 10
  | 91 => 50000
  | 92 => 24
  | 93 => 24
  | 94 => 24
  | 95 => 40
  | 96 => 40
  | 97 => 40
  | 98 => 40
  | 99 => 40
  | 100 => 12
  | 101 => 12
  | 102 => 12
  | 103 => 12
  | 104 => 8
  | 105 => 8
  | _ => 8
def lngR : Nat → Bool := fun j => match j with
  | 0 => false
  | 1 => true
  | 2 => false
  | 3 => false
  | 4 => false
  | 5 => false
  | 6 => false
  | 7 => true
  | 8 => true
  | 9 => false
  | 10 => false
  | 11 => false
  | 12 => false
  | 13 => false
  | 14 => false
  | 15 => false
  | 16 => false
  | 17 => false
  | 18 => false
  | 19 => false
  | 20 => false
  | 21 => false
  | 22 => false
  | 23 => false
  | 24 => false
  | 25 => false
  | 26 => false
  | 27 => false
  | 28 => false
  | 29 => false
  | 30 => false
  | 31 => false
  | 32 => false
  | 33 => false
  | 34 => false
  | 35 => false
  | 36 => false
  | 37 => false
  | 38 => false
  | 39 => false
  | 40 => false
  | 41 => false
  | 42 => false
  | 43 => false
  | 44 => false
  | 45 => false
  | 46 => false
  | 47 => false
  | 48 => false
  | 49 => false
  | 50 => false
  | 51 => false
  | 52 => false
  | 53 => false
  | 54 => false
  | 55 => false
  | 56 => false
  | 57 => false
  | 58 => false
  | 59 => false
  | 60 => false
  | 61 => false
  | 62 => false
  | 63 => false
  | 64 => false
  | 65 => false
  | 66 => false
  | 67 => false
  | 68 => false
  | 69 => false
  | 70 => false
  | 71 => false
  | 72 => false
  | 73 => false
  | 74 => false
  | 75 => false
  | 76 => false
  | 77 => false
  | 78 => false
  | 79 => false
  | 80 => false
  | 81 => false
  | 82 => false
  | 83 => false
  | 84 => false
  | 85 => false
  | 86 => false
  | 87 => false
  | 88 => false
  | 89 => false
  | 90 => false
  | 91 => false
  | 92 => false
  | 93 => false
  | 94 => false
  | 95 => false
  | 96 => false
  | 97 => false
  | 98 => false
  | 99 => false
  | 100 => false
  | 101 => false
  | 102 => false
  | 103 => false
  | 104 => false
  | 105 => false
  | _ => false
def kdR : Nat → Nat := fun j => match j with
  | 0 => 0
  | 1 => 2
  | 2 => 2
  | 3 => 2
  | 4 => 2
  | 5 => 0
  | 6 => 0
  | 7 => 0
  | 8 => 2
  | 9 => 2
  | 10 => 2
  | 11 => 0
  | 12 => 1
  | 13 => 2
  | 14 => 2
  | 15 => 2
  | 16 => 0
  | 17 => 0
  | 18 => 0
  | 19 => 0
  | 20 => 0
  | 21 => 0
  | 22 => 0
  | 23 => 0
  | 24 => 0
  | 25 => 0
  | 26 => 2
  | 27 => 2
  | 28 => 2
  | 29 => 2
  | 30 => 0
  | 31 => 2
  | 32 => 2
  | 33 => 0
  | 34 => 0
  | 35 => 0
  | 36 => 0
  | 37 => 0
  | 38 => 0
  | 39 => 2
  | 40 => 2
  | 41 => 2
  | 42 => 2
  | 43 => 2
  | 44 => 2
  | 45 => 2
  | 46 => 2
  | 47 => 2
  | 48 => 2
  | 49 => 2
  | 50 => 2
  | 51 => 2
  | 52 => 0
  | 53 => 2
  | 54 => 2
  | 55 => 2
  | 56 => 2
  | 57 => 2
  | 58 => 2
  | 59 => 2
  | 60 => 0
  | 61 => 2
  | 62 => 2
  | 63 => 2
  | 64 => 2
  | 65 => 2
  | 66 => 2
  | 67 => 2
  | 68 => 2
  | 69 => 2
  | 70 => 2
  | 71 => 2
  | 72 => 2
  | 73 => 2
  | 74 => 0
  | 75 => 0
  | 76 => 0
  | 77 => 0
  | 78 => 2
  | 79 => 2
  | 80 => 2
  | 81 => 0
  | 82 => 0
  | 83 => 0
  | 84 => 0
  | 85 => 2
  | 86 => 2
  | 87 => 2
  | 88 => 2
  | 89 => 0
  | 90 => 0
  | 91 => 0
  | 92 => 0
  | 93 => 0
  | 94 => 0
  | 95 => 0
  | 96 => 2
  | 97 => 2
  | 98 => 2
  | 99 => 2
  | 100 => 2
  | 101 => 2
  | 102 => 2
  | 103 => 2
  | 104 => 2
  | 105 => 2
  | 106 => 2
  | 107 => 2
  | 108 => 2
  | 109 => 0
  | 110 => 0
  | 111 => 0
  | 112 => 0
  | 113 => 0
  | 114 => 2
  | 115 => 2
  | 116 => 0
  | 117 => 0
  | 118 => 0
  | 119 => 0
  | 120 => 2
  | 121 => 2
  | 122 => 2
  | 123 => 2
  | 124 => 2
  | 125 => 0
  | 126 => 2
  | 127 => 2
  | 128 => 0
  | 129 => 0
  | 130 => 2
  | 131 => 2
  | 132 => 2
  | 133 => 2
  | 134 => 2
  | 135 => 2
  | 136 => 2
  | 137 => 2
  | 138 => 0
  | 139 => 2
  | 140 => 2
  | 141 => 2
  | 142 => 2
  | 143 => 2
  | 144 => 2
  | 145 => 0
  | 146 => 0
  | 147 => 2
  | 148 => 2
  | 149 => 2
  | 150 => 0
  | 151 => 2
  | 152 => 2
  | 153 => 2
  | 154 => 2
  | 155 => 2
  | 156 => 2
  | 157 => 2
  | 158 => 2
  | 159 => 2
  | 160 => 2
  | 161 => 2
  | _ => 2
def ixR : Nat → Nat := fun j => match j with
  | 0 => 0
  | 1 => 0
  | 2 => 1
  | 3 => 2
  | 4 => 3
  | 5 => 0
  | 6 => 0
  | 7 => 0
  | 8 => 4
  | 9 => 5
  | 10 => 6
  | 11 => 0
  | 12 => 0
  | 13 => 7
  | 14 => 8
  | 15 => 9
  | 16 => 0
  | 17 => 0
  | 18 => 0
  | 19 => 0
  | 20 => 0
  | 21 => 0
  | 22 => 0
  | 23 => 0
  | 24 => 0
  | 25 => 0
  | 26 => 10
  | 27 => 11
  | 28 => 12
  | 29 => 13
  | 30 => 0
  | 31 => 14
  | 32 => 15
  | 33 => 0
  | 34 => 0
  | 35 => 0
  | 36 => 0
  | 37 => 0
  | 38 => 0
  | 39 => 16
  | 40 => 17
  | 41 => 18
  | 42 => 19
  | 43 => 20
  | 44 => 21
  | 45 => 22
  | 46 => 23
  | 47 => 24
  | 48 => 25
  | 49 => 26
  | 50 => 27
  | 51 => 28
  | 52 => 0
  | 53 => 29
  | 54 => 30
  | 55 => 31
  | 56 => 32
  | 57 => 33
  | 58 => 34
  | 59 => 35
  | 60 => 0
  | 61 => 36
  | 62 => 37
  | 63 => 38
  | 64 => 39
  | 65 => 40
  | 66 => 41
  | 67 => 42
  | 68 => 43
  | 69 => 44
  | 70 => 45
  | 71 => 46
  | 72 => 47
  | 73 => 48
  | 74 => 0
  | 75 => 0
  | 76 => 0
  | 77 => 0
  | 78 => 49
  | 79 => 50
  | 80 => 51
  | 81 => 0
  | 82 => 0
  | 83 => 0
  | 84 => 0
  | 85 => 52
  | 86 => 53
  | 87 => 54
  | 88 => 55
  | 89 => 0
  | 90 => 0
  | 91 => 0
  | 92 => 0
  | 93 => 0
  | 94 => 0
  | 95 => 0
  | 96 => 56
  | 97 => 57
  | 98 => 58
  | 99 => 59
  | 100 => 60
  | 101 => 61
  | 102 => 62
  | 103 => 63
  | 104 => 64
  | 105 => 65
  | 106 => 66
  | 107 => 67
  | 108 => 68
  | 109 => 0
  | 110 => 0
  | 111 => 0
  | 112 => 0
  | 113 => 0
  | 114 => 69
  | 115 => 70
  | 116 => 0
  | 117 => 0
  | 118 => 0
  | 119 => 0
  | 120 => 71
  | 121 => 72
  | 122 => 73
  | 123 => 74
  | 124 => 75
  | 125 => 0
  | 126 => 76
  | 127 => 77
  | 128 => 0
  | 129 => 0
  | 130 => 78
  | 131 => 79
  | 132 => 80
  | 133 => 81
  | 134 => 82
  | 135 => 83
  | 136 => 84
  | 137 => 85
  | 138 => 0
  | 139 => 86
  | 140 => 87
  | 141 => 88
  | 142 => 89
  | 143 => 90
  | 144 => 91
  | 145 => 0
  | 146 => 0
  | 147 => 92
  | 148 => 93
  | 149 => 94
  | 150 => 0
  | 151 => 95
  | 152 => 96
  | 153 => 97
  | 154 => 98
  | 155 => 99
  | 156 => 100
  | 157 => 101
  | 158 => 102
  | 159 => 103
  | 160 => 104
  | 161 => 105
  | _ => 106
/-- the reference's fields: ints, longs, its rows -/
def vS (a : Nat → Nat) (i : Nat → Int32) (l : Nat → Int64) : Nat → Value := fun K => match kdR K with
  | 0 => .int (i K)
  | 1 => .long (l K)
  | _ => .ref (a (ixR K))
def cR (a : Nat → Nat) (k : Nat → ClassId) (F : Nat → Nat → Int32) (G : Nat → Nat → Int64) (j : Nat) : Nat × va_E := (a j, .inl (k j, lenR j, match lngR j with
  | true => .inr (.inl (G j))
  | false => .inl (F j)))
/-- the reference whole -/
def WR (a : Nat → Nat) (k : Nat → ClassId) (h0 : Nat) (i : Nat → Int32) (l : Nat → Int64) (F : Nat → Nat → Int32) (G : Nat → Nat → Int64) : va_W := (h0, .inr (12, fM (vS a i l))) :: (List.range 107).map (cR a k F G)
def fT {α : Type} (f : Nat → α) (t : Nat) (x : α) : Nat → α := fun j => if j = t then x else f j
theorem fT_eq {α : Type} (f : Nat → α) (t : Nat) (x : α) : fT f t x t = x := if_pos rfl
theorem fT_ne {α : Type} (f : Nat → α) {t j : Nat} (x : α) (h : j ≠ t) : fT f t x j = f j := if_neg h
theorem vS_i (a : Nat → Nat) (i : Nat → Int32) (l : Nat → Int64) (K : Nat) (x : Int32) (h : kdR K = 0) : mUp (vS a i l) K (.int x) = vS a (fT i K x) l := by
  funext q
  by_cases e : q = K
  · subst e; simp [mUp, vS, h, fT]
  · have : Nat.beq q K = false := by
      cases h9 : Nat.beq q K with
      | false => rfl
      | true => exact absurd (Nat.eq_of_beq_eq_true h9) e
    simp [mUp, this, vS, fT, e]
theorem vS_l (a : Nat → Nat) (i : Nat → Int32) (l : Nat → Int64) (K : Nat) (x : Int64) (h : kdR K = 1) : mUp (vS a i l) K (.long x) = vS a i (fT l K x) := by
  funext q
  by_cases e : q = K
  · subst e; simp [mUp, vS, h, fT]
  · have : Nat.beq q K = false := by
      cases h9 : Nat.beq q K with
      | false => rfl
      | true => exact absurd (Nat.eq_of_beq_eq_true h9) e
    simp [mUp, this, vS, fT, e]
theorem WR_get {a : Nat → Nat} {k : Nat → ClassId} {h0 : Nat} {i : Nat → Int32} {l : Nat → Int64} {F : Nat → Nat → Int32} {G : Nat → Nat → Int64} (j : Nat) (hj : j < 107) : (WR a k h0 i l F G)[j + 1]? = some (cR a k F G j) := by
  unfold WR
  rw [List.getElem?_cons_succ, List.getElem?_map, List.getElem?_range hj]
  rfl
theorem TR_get {k : Nat → ClassId} (j : Nat) (hj : j < 107) : (tX12 k)[j]? = some (k j, arT j) := by
  unfold tX12
  rw [List.getElem?_map, List.getElem?_range hj]
  rfl
theorem WR_i {a : Nat → Nat} {k : Nat → ClassId} {h0 : Nat} {i : Nat → Int32} {l : Nat → Int64} {F : Nat → Nat → Int32} {G : Nat → Nat → Int64} (K : Nat) (x : Int32) (h : kdR K = 0) : (WR a k h0 i l F G).set 0 (h0, .inr (12, (fM (vS a i l)).set K (.int x))) = WR a k h0 (fT i K x) l F G := by
  rw [mSet, vS_i a i l K x h]; rfl
theorem WR_l {a : Nat → Nat} {k : Nat → ClassId} {h0 : Nat} {i : Nat → Int32} {l : Nat → Int64} {F : Nat → Nat → Int32} {G : Nat → Nat → Int64} (K : Nat) (x : Int64) (h : kdR K = 1) : (WR a k h0 i l F G).set 0 (h0, .inr (12, (fM (vS a i l)).set K (.long x))) = WR a k h0 i (fT l K x) F G := by
  rw [mSet, vS_l a i l K x h]; rfl
theorem WR_F {a : Nat → Nat} {k : Nat → ClassId} {h0 : Nat} {i : Nat → Int32} {l : Nat → Int64} {F : Nat → Nat → Int32} {G : Nat → Nat → Int64} (j : Nat) (hj : j < 107) (f : Nat → Int32) (h : lngR j = false) : (WR a k h0 i l F G).set (j + 1) (a j, .inl (k j, lenR j, .inl f)) = WR a k h0 i l (fT F j f) G := by
  unfold WR
  rw [List.set_cons_succ]
  congr 1
  apply List.ext_getElem?
  intro q
  rw [List.getElem?_set, List.getElem?_map, List.getElem?_map]
  rcases Nat.lt_or_ge q 107 with hq | hq
  · rw [List.getElem?_range hq]
    by_cases e : j = q
    · subst e; simp [hq, cR, h, fT]
    · have e9 : ¬ q = j := fun h9 => e h9.symm
      simp [e, cR, fT, e9]
  · by_cases e : j = q
    · omega
    · simp [e, List.getElem?_eq_none (show (List.range 107).length ≤ q by simp; omega)]
theorem WR_G {a : Nat → Nat} {k : Nat → ClassId} {h0 : Nat} {i : Nat → Int32} {l : Nat → Int64} {F : Nat → Nat → Int32} {G : Nat → Nat → Int64} (j : Nat) (hj : j < 107) (f : Nat → Int64) (h : lngR j = true) : (WR a k h0 i l F G).set (j + 1) (a j, .inl (k j, lenR j, .inr (.inl f))) = WR a k h0 i l F (fT G j f) := by
  unfold WR
  rw [List.set_cons_succ]
  congr 1
  apply List.ext_getElem?
  intro q
  rw [List.getElem?_set, List.getElem?_map, List.getElem?_map]
  rcases Nat.lt_or_ge q 107 with hq | hq
  · rw [List.getElem?_range hq]
    by_cases e : j = q
    · subst e; simp [hq, cR, h, fT]
    · have e9 : ¬ q = j := fun h9 => e h9.symm
      simp [e, cR, fT, e9]
  · by_cases e : j = q
    · omega
    · simp [e, List.getElem?_eq_none (show (List.range 107).length ≤ q by simp; omega)]
/-- a callee that has the caller's whole world -/
theorem allFree {A0 : Nat → Prop} {ws : va_W} {H0 H : Heap} {locs : List Loc} (hD : va_D A0 ws) (hS : va_S A0 H0 H locs) (hA : ∀ q, H0.size ≤ q → A0 q) : ∀ q, va_A ws H.size q → A0 q := by
  rintro q (⟨k, e, h⟩ | h)
  · exact hD.2 k _ h
  · exact hA q (Nat.le_trans hS.1 h)
/-- a callee that has nothing of the caller's world -/
theorem noneFree {A0 : Nat → Prop} {H0 H : Heap} {locs : List Loc} (hS : va_S A0 H0 H locs) (hA : ∀ q, H0.size ≤ q → A0 q) : ∀ q, va_A [] H.size q → A0 q := by
  rintro q (⟨k, e, h⟩ | h)
  · simp at h
  · exact hA q (Nat.le_trans hS.1 h)
theorem keepAll {D : va_G} {cl : List vw_C} {ws : va_W} {H H1 : Heap} (hP : va_P D cl ws H) (hk : ∀ q : Nat, q < H.size → ¬ va_A [] H.size q → H1[q]? = H[q]?) : va_P D cl ws H1 :=
  hP.kept (fun k q h => hk q.1 ((hP k q h).lt) (by
    rintro (⟨k9, e9, h9⟩ | h9)
    · simp at h9
    · have := (hP k q h).lt; omega))
theorem fT_id {α : Type} (f : Nat → α) {k : Nat} (x : α) (h : f k = x) : fT f k x = f := by
  funext q
  unfold fT
  by_cases e : q = k
  · rw [if_pos e, e]; exact h.symm
  · rw [if_neg e]
theorem fT_sw {α : Type} (f : Nat → α) {a b : Nat} (x y : α) (h : b ≠ a) : fT (fT f a x) b y = fT (fT f b y) a x := by
  funext q
  unfold fT
  by_cases e1 : q = a
  · subst e1
    rw [if_neg (fun e => h e.symm), if_pos rfl, if_pos rfl]
  · by_cases e2 : q = b
    · rw [if_pos e2, if_neg e1, if_pos e2]
    · rw [if_neg e2, if_neg e1, if_neg e1, if_neg e2]
theorem fT_sm {α : Type} (f : Nat → α) (a : Nat) (x y : α) : fT (fT f a x) a y = fT f a y := by
  funext q
  unfold fT
  by_cases e1 : q = a
  · rw [if_pos e1, if_pos e1]
  · rw [if_neg e1, if_neg e1, if_neg e1]

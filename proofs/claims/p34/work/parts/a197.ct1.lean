/-! whole numbers as they are made -/
theorem perm_mid {a t : va_W} {x : Nat × va_E} : List.Perm ((a ++ t) ++ [x]) ((a ++ [x]) ++ t) := by
  rw [List.append_assoc, List.append_assoc]
  exact List.Perm.append_left _ List.perm_append_comm
/-- f below a, then g from nought -/
def jn {α : Type} (a : Nat) (f g : Nat → α) : Nat → α := fun j => if j < a then f j else g (j - a)
theorem jn_l {α : Type} {a j : Nat} {f g : Nat → α} (h : j < a) : jn a f g j = f j := if_pos h
theorem jn_r {α : Type} {a j : Nat} {f g : Nat → α} : jn a f g (a + j) = g j := by
  unfold jn; rw [if_neg (by omega), Nat.add_sub_cancel_left]
theorem WW_app {a b : Nat} {h1 l1 h2 l2 : Nat → Nat} {kw : ClassId} : List.Perm (WW a h1 l1 kw (fun _ => 0) (fun _ => 0) (fun _ _ => 0) ++ WW b h2 l2 kw (fun _ => 0) (fun _ => 0) (fun _ _ => 0)) (WW (a + b) (jn a h1 h2) (jn a l1 l2) kw (fun _ => 0) (fun _ => 0) (fun _ _ => 0)) := by
  unfold WW
  rw [List.range_add, List.map_append, List.map_append, List.map_map, List.map_map]
  have e1 : (List.range a).map (fun w => ((jn a h1 h2 w, .inr (8, [.ref (jn a l1 l2 w), .int 0, .int 0])) : Nat × va_E)) = (List.range a).map (fun w => ((h1 w, .inr (8, [.ref (l1 w), .int 0, .int 0])) : Nat × va_E)) := List.map_congr_left (fun w hw => by rw [jn_l (List.mem_range.mp hw), jn_l (List.mem_range.mp hw)])
  have e2 : (List.range a).map (fun w => ((jn a l1 l2 w, .inl (kw, 14, .inr (.inl (fun _ => 0)))) : Nat × va_E)) = (List.range a).map (fun w => ((l1 w, .inl (kw, 14, .inr (.inl (fun _ => 0)))) : Nat × va_E)) := List.map_congr_left (fun w hw => by rw [jn_l (List.mem_range.mp hw)])
  have e3 : (List.range b).map ((fun w => ((jn a h1 h2 w, .inr (8, [.ref (jn a l1 l2 w), .int 0, .int 0])) : Nat × va_E)) ∘ (fun x => a + x)) = (List.range b).map (fun w => ((h2 w, .inr (8, [.ref (l2 w), .int 0, .int 0])) : Nat × va_E)) := List.map_congr_left (fun w _ => by rw [Function.comp_apply, jn_r, jn_r])
  have e4 : (List.range b).map ((fun w => ((jn a l1 l2 w, .inl (kw, 14, .inr (.inl (fun _ => 0)))) : Nat × va_E)) ∘ (fun x => a + x)) = (List.range b).map (fun w => ((l2 w, .inl (kw, 14, .inr (.inl (fun _ => 0)))) : Nat × va_E)) := List.map_congr_left (fun w _ => by rw [Function.comp_apply, jn_r])
  rw [e1, e2, e3, e4, List.append_assoc, List.append_assoc]
  exact List.Perm.append_left _ (List.perm_append_comm_assoc _ _ _)
theorem WW_push {i q y : Nat} {hw lw : Nat → Nat} {kw : ClassId} : List.Perm (WW i hw lw kw (fun _ => 0) (fun _ => 0) (fun _ _ => 0) ++ [(q, .inr (8, [.ref y, .int 0, .int 0])), (y, .inl (kw, 14, .inr (.inl (fun _ => 0))))]) (WW (i + 1) (jn i hw (fun _ => q)) (jn i lw (fun _ => y)) kw (fun _ => 0) (fun _ => 0) (fun _ _ => 0)) :=
  WW_app (h2 := fun _ => q) (l2 := fun _ => y) (b := 1)
/-- a row of whole numbers, the first i of its places filled -/
def fW (i : Nat) (hw : Nat → Nat) : Nat → Option Nat := fun j => if j < i then some (hw j) else none
theorem fW_0 (hw : Nat → Nat) : fW 0 hw = fun _ => none := by funext j; unfold fW; rw [if_neg (by omega)]
theorem fW_s {i q : Nat} {hw : Nat → Nat} {x : Int32} (hx : x.toNatClampNeg = i) : va_up (fW i hw) x.toNatClampNeg (some q) = fW (i + 1) (jn i hw (fun _ => q)) := by
  rw [hx]; funext j; unfold va_up fW jn
  by_cases e : j = i
  · subst e; rw [if_pos rfl, if_pos (by omega), if_neg (by omega)]
  · rw [if_neg e]
    by_cases h : j < i
    · rw [if_pos h, if_pos (by omega), if_pos h]
    · rw [if_neg h, if_neg (by omega)]
theorem arrV_cg {cA : ClassId} {n : Nat} {f g : Nat → Option Nat} (h : ∀ j, j < n → f j = g j) : vp_cell cA (n, .inr (.inr (.inr (.inr f)))) = vp_cell cA (n, .inr (.inr (.inr (.inr g)))) := by
  rw [vp_cell_q, vp_cell_q]
  unfold arrV
  congr 1
  apply Array.ext
  · simp
  · intro i h1 h2
    simp at h1
    simp [h i h1]
theorem va_P.cg {D : va_G} {cl : List vw_C} {X Y : va_W} {a n : Nat} {cA : ClassId} {f g : Nat → Option Nat} {H : Heap} (h : va_P D cl (X ++ (a, .inl (cA, n, .inr (.inr (.inr (.inr f))))) :: Y) H) (hg : ∀ j, j < n → f j = g j) : va_P D cl (X ++ (a, .inl (cA, n, .inr (.inr (.inr (.inr g))))) :: Y) H := fun k q hk => by
  rcases List.mem_append.mp (List.mem_of_getElem? hk) with h9 | h9
  · obtain ⟨i, hi⟩ := List.getElem?_of_mem (List.mem_append_left ((a, .inl (cA, n, .inr (.inr (.inr (.inr f))))) :: Y) h9); exact h i q hi
  · rcases List.mem_cons.mp h9 with h8 | h8
    · subst h8
      obtain ⟨i, hi⟩ := List.getElem?_of_mem (List.mem_append_right X (List.mem_cons_self (a := ((a, .inl (cA, n, .inr (.inr (.inr (.inr f))))) : Nat × va_E)) (l := Y)))
      have h7 := h i _ hi
      show H[a]? = some _
      rw [← arrV_cg hg]
      exact h7
    · obtain ⟨i, hi⟩ := List.getElem?_of_mem (List.mem_append_right X (List.mem_cons_of_mem ((a, .inl (cA, n, .inr (.inr (.inr (.inr f))))) : Nat × va_E) h8)); exact h i q hi
theorem va_D.cg {A : Nat → Prop} {X Y : va_W} {a : Nat} {e1 e2 : va_E} (h : va_D A (X ++ (a, e1) :: Y)) : va_D A (X ++ (a, e2) :: Y) := by
  rw [va_D_iff] at h ⊢
  simp only [List.map_append, List.map_cons] at h ⊢
  refine ⟨h.1, fun q hq => ?_⟩
  rcases List.mem_append.mp hq with h9 | h9
  · exact h.2 q (List.mem_append_left _ h9)
  · rcases List.mem_cons.mp h9 with h8 | h8
    · subst h8; exact h.2 (a, e1) (List.mem_append_right _ List.mem_cons_self)
    · exact h.2 q (List.mem_append_right _ (List.mem_cons_of_mem _ h8))
theorem nI_cl {i : Nat} (h : i ≤ 1000) : (nI i).toNatClampNeg = i := by
  have := nI_toInt (n := i) (by omega)
  show (nI i).toInt.toNat = i
  omega
theorem perm_in {a x w t : va_W} : List.Perm ((a ++ x) ++ (w ++ t)) ((x ++ w) ++ (a ++ t)) := by
  rw [List.append_assoc, List.append_assoc]
  exact (List.perm_append_comm_assoc _ _ _).trans (List.Perm.append_left _ (List.perm_append_comm_assoc _ _ _))
theorem WW_in {i q y : Nat} {hw lw : Nat → Nat} {kw : ClassId} {T : va_W} : List.Perm ([(q, .inr (8, [.ref y, .int 0, .int 0])), (y, .inl (kw, 14, .inr (.inl (fun _ => 0))))] ++ (WW i hw lw kw (fun _ => 0) (fun _ => 0) (fun _ _ => 0) ++ T)) (WW (i + 1) (jn i hw (fun _ => q)) (jn i lw (fun _ => y)) kw (fun _ => 0) (fun _ => 0) (fun _ _ => 0) ++ T) := by
  rw [← List.append_assoc]
  exact List.Perm.append_right _ (List.perm_append_comm.trans WW_push)
theorem RuV.zero : RuV (fun _ => 0) (fun _ => 0) (fun _ => 0) (fun _ => 0) (fun _ => 0) := fun _ => ⟨fun h => absurd (show (0 : Int32).toInt = 1 from h) (by decide), fun h => absurd (show (0 : Int32).toInt = 4 from h) (by decide)⟩
theorem WW_ap2 {a b : Nat} {h1 l1 h2 l2 : Nat → Nat} {kw : ClassId} {T : va_W} : List.Perm (WW a h1 l1 kw (fun _ => 0) (fun _ => 0) (fun _ _ => 0) ++ (WW b h2 l2 kw (fun _ => 0) (fun _ => 0) (fun _ _ => 0) ++ T)) (WW (a + b) (jn a h1 h2) (jn a l1 l2) kw (fun _ => 0) (fun _ => 0) (fun _ _ => 0) ++ T) := by
  rw [← List.append_assoc]
  exact List.Perm.append_right _ WW_app
theorem fW_all {n : Nat} {hw g : Nat → Nat} (h : ∀ j, j < n → hw j = g j) : ∀ j, j < n → fW n hw j = (fun q => some (g q)) j := fun j hj => by
  show fW n hw j = some (g j)
  rw [← h j hj]; exact if_pos hj
theorem WQ_cg {D : va_G} {cl : List vw_C} {hQ aQ : Nat → Nat} {kQ : Nat → ClassId} {hw hw' : Nat → Nat} {f1 f2 f3 : Nat → Int32} {i1 i2 i3 : Int32} {X Y : va_W} {H : Heap} (h : ∀ j, j < 406 → hw j = hw' j) (hP : va_P D cl (X ++ (WQ hQ aQ kQ hw f1 f2 f3 i1 i2 i3 ++ Y)) H) : va_P D cl (X ++ (WQ hQ aQ kQ hw' f1 f2 f3 i1 i2 i3 ++ Y)) H := by
  unfold WQ at hP ⊢
  rw [← h 400 (by omega), ← h 401 (by omega), ← h 402 (by omega), ← h 403 (by omega), ← h 404 (by omega), ← h 405 (by omega)]
  have h1 := va_P.mem (ws' := (X ++ [_]) ++ _ :: ([_, _, _] ++ Y)) hP (fun q hq => by simpa [List.append_assoc] using hq)
  exact va_P.mem (va_P.cg (g := fun q => some (hw' q)) h1 (fun j hj => by rw [h j (by omega)])) (fun q hq => by simpa [List.append_assoc] using hq)
theorem fst_D {A : Nat → Prop} {ws ws' : va_W} (h : va_D A ws) (e : ws.map Prod.fst = ws'.map Prod.fst) : va_D A ws' := by
  rw [va_D_iff] at h ⊢
  refine ⟨e ▸ h.1, fun q hq => ?_⟩
  have : q.1 ∈ ws.map Prod.fst := by rw [e]; exact List.mem_map.mpr ⟨q, hq, rfl⟩
  obtain ⟨x, hx, ex⟩ := List.mem_map.mp this
  rw [← ex]; exact h.2 x hx
theorem WO_cg {D : va_G} {cl : List vw_C} {hO aO hM hQ : Nat → Nat} {kO : Nat → ClassId} {hw hw' : Nat → Nat} {i1 i2 i3 i4 : Int32} {f1 f4 f5 f6 : Nat → Int32} {g2 g3 : Nat → Int64} {X Y : va_W} {H : Heap} (h : ∀ j, j < 432 → hw j = hw' j) (hP : va_P D cl (X ++ (WO hO aO kO hM hQ hw i1 i2 i3 i4 f1 g2 g3 f4 f5 f6 ++ Y)) H) : va_P D cl (X ++ (WO hO aO kO hM hQ hw' i1 i2 i3 i4 f1 g2 g3 f4 f5 f6 ++ Y)) H := by
  unfold WO at hP ⊢
  rw [← h 417 (by omega), ← h 426 (by omega), ← h 427 (by omega)]
  have h1 := va_P.mem (ws' := (X ++ [_, _, _, _, _, _, _]) ++ _ :: ([_, _, _] ++ Y)) hP (fun q hq => by simpa [List.append_assoc] using hq)
  have h2 := va_P.cg (g := fun q => some (hw' (406 + q))) h1 (fun j hj => by rw [h (406 + j) (by omega)])
  have h3 := va_P.mem (ws' := (X ++ [_, _, _, _, _, _, _, _]) ++ _ :: ([_, _] ++ Y)) h2 (fun q hq => by simpa [List.append_assoc] using hq)
  have h4 := va_P.cg (g := fun q => some (hw' (414 + q))) h3 (fun j hj => by rw [h (414 + j) (by omega)])
  have h5 := va_P.mem (ws' := (X ++ [_, _, _, _, _, _, _, _, _]) ++ _ :: ([_] ++ Y)) h4 (fun q hq => by simpa [List.append_assoc] using hq)
  have h6 := va_P.cg (g := fun q => some (hw' (418 + q))) h5 (fun j hj => by rw [h (418 + j) (by omega)])
  have h7 := va_P.mem (ws' := (X ++ [_, _, _, _, _, _, _, _, _, _]) ++ _ :: Y) h6 (fun q hq => by simpa [List.append_assoc] using hq)
  have h8 := va_P.cg (g := fun q => some (hw' (428 + q))) h7 (fun j hj => by rw [h (428 + j) (by omega)])
  exact va_P.mem h8 (fun q hq => by simpa [List.append_assoc] using hq)

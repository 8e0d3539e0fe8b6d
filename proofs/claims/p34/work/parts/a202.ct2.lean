/-! parts as they are made: small facts -/
theorem TbO.zero : TbO 0 0 0 := ⟨by decide, by decide, by decide⟩
theorem WW_apG {n a b : Nat} (hn : n = a) {h1 l1 h2 l2 : Nat → Nat} {kw : ClassId} {wl wb : Nat → Int32} {wG : Nat → Nat → Int64} {T : va_W} : List.Perm (WW n h1 l1 kw wl wb wG ++ (WW b h2 l2 kw (fun _ => 0) (fun _ => 0) (fun _ _ => 0) ++ T)) (WW (a + b) (jn a h1 h2) (jn a l1 l2) kw (jn a wl (fun _ => 0)) (jn a wb (fun _ => 0)) (jn a wG (fun _ _ => 0)) ++ T) := by
  subst hn
  rw [← List.append_assoc]
  refine List.Perm.append_right _ ?_
  unfold WW
  rw [List.range_add, List.map_append, List.map_append, List.map_map, List.map_map]
  have e1 : (List.range n).map (fun w => ((jn n h1 h2 w, .inr (8, [.ref (jn n l1 l2 w), .int (jn n wl (fun _ => 0) w), .int (jn n wb (fun _ => 0) w)])) : Nat × va_E)) = (List.range n).map (fun w => ((h1 w, .inr (8, [.ref (l1 w), .int (wl w), .int (wb w)])) : Nat × va_E)) := List.map_congr_left (fun w hw => by rw [jn_l (List.mem_range.mp hw), jn_l (List.mem_range.mp hw), jn_l (List.mem_range.mp hw), jn_l (List.mem_range.mp hw)])
  have e2 : (List.range n).map (fun w => ((jn n l1 l2 w, .inl (kw, 14, .inr (.inl (jn n wG (fun _ _ => 0) w)))) : Nat × va_E)) = (List.range n).map (fun w => ((l1 w, .inl (kw, 14, .inr (.inl (wG w)))) : Nat × va_E)) := List.map_congr_left (fun w hw => by rw [jn_l (List.mem_range.mp hw), jn_l (List.mem_range.mp hw)])
  have e3 : (List.range b).map ((fun w => ((jn n h1 h2 w, .inr (8, [.ref (jn n l1 l2 w), .int (jn n wl (fun _ => 0) w), .int (jn n wb (fun _ => 0) w)])) : Nat × va_E)) ∘ (fun x => n + x)) = (List.range b).map (fun w => ((h2 w, .inr (8, [.ref (l2 w), .int 0, .int 0])) : Nat × va_E)) := List.map_congr_left (fun w _ => by rw [Function.comp_apply, jn_r, jn_r, jn_r, jn_r])
  have e4 : (List.range b).map ((fun w => ((jn n l1 l2 w, .inl (kw, 14, .inr (.inl (jn n wG (fun _ _ => 0) w)))) : Nat × va_E)) ∘ (fun x => n + x)) = (List.range b).map (fun w => ((l2 w, .inl (kw, 14, .inr (.inl (fun _ => 0)))) : Nat × va_E)) := List.map_congr_left (fun w _ => by rw [Function.comp_apply, jn_r, jn_r])
  rw [e1, e2, e3, e4, List.append_assoc, List.append_assoc]
  exact List.Perm.append_left _ (List.perm_append_comm_assoc _ _ _)
theorem jn_rng {f : Nat → Int32} {n : Nat} {lo hi : Int} (h : ∀ q : Nat, lo ≤ (f q).toInt ∧ (f q).toInt ≤ hi) (h1 : lo ≤ 0) (h2 : 0 ≤ hi) : ∀ q : Nat, lo ≤ (jn n f (fun _ => 0) q).toInt ∧ (jn n f (fun _ => 0) q).toInt ≤ hi := fun q => by
  unfold jn
  by_cases e : q < n
  · rw [if_pos e]; exact h q
  · rw [if_neg e]; exact ⟨h1, h2⟩
theorem OQ_cg {D : va_G} {cl : List vw_C} {hO aO hM hQ aQ : Nat → Nat} {kO kQ : Nat → ClassId} {hw hw' : Nat → Nat} {i1 i2 i3 i4 j1 j2 j3 : Int32} {f1 f4 f5 f6 e1 e2 e3 : Nat → Int32} {g2 g3 : Nat → Int64} {Y : va_W} {H : Heap} (h : ∀ j, j < 432 → hw j = hw' j) (hP : va_P D cl (WO hO aO kO hM hQ hw i1 i2 i3 i4 f1 g2 g3 f4 f5 f6 ++ (WQ hQ aQ kQ hw e1 e2 e3 j1 j2 j3 ++ Y)) H) : va_P D cl (WO hO aO kO hM hQ hw' i1 i2 i3 i4 f1 g2 g3 f4 f5 f6 ++ (WQ hQ aQ kQ hw' e1 e2 e3 j1 j2 j3 ++ Y)) H :=
  WQ_cg (X := WO hO aO kO hM hQ hw' i1 i2 i3 i4 f1 g2 g3 f4 f5 f6) (fun j hj => h j (by omega)) (WO_cg (X := []) h hP)
theorem OQ_cd {A : Nat → Prop} {hO aO hM hQ aQ : Nat → Nat} {kO kQ : Nat → ClassId} {hw hw' : Nat → Nat} {i1 i2 i3 i4 j1 j2 j3 : Int32} {f1 f4 f5 f6 e1 e2 e3 : Nat → Int32} {g2 g3 : Nat → Int64} {Y : va_W} (hD : va_D A (WO hO aO kO hM hQ hw i1 i2 i3 i4 f1 g2 g3 f4 f5 f6 ++ (WQ hQ aQ kQ hw e1 e2 e3 j1 j2 j3 ++ Y))) : va_D A (WO hO aO kO hM hQ hw' i1 i2 i3 i4 f1 g2 g3 f4 f5 f6 ++ (WQ hQ aQ kQ hw' e1 e2 e3 j1 j2 j3 ++ Y)) := fst_D hD rfl

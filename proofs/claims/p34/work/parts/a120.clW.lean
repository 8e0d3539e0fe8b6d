/-! worlds up to the order of their cells; the family of whole numbers -/
theorem va_P.mem {D : va_G} {cl : List vw_C} {ws ws' : va_W} {H : Heap} (h : va_P D cl ws H) (hs : ∀ q, q ∈ ws' → q ∈ ws) : va_P D cl ws' H := fun k q hk => by
  obtain ⟨i, hi⟩ := List.getElem?_of_mem (hs q (List.mem_of_getElem? hk))
  exact h i q hi
theorem va_D_iff {A : Nat → Prop} {ws : va_W} : va_D A ws ↔ (ws.map Prod.fst).Nodup ∧ ∀ q ∈ ws, A q.1 := by
  constructor
  · intro h
    refine ⟨?_, fun q hq => ?_⟩
    · rw [List.Nodup, List.pairwise_iff_getElem]
      intro i j hi hj hij e
      rw [List.length_map] at hi hj
      have h1 : ws[i]? = some ws[i] := List.getElem?_eq_getElem hi
      have h2 : ws[j]? = some ws[j] := List.getElem?_eq_getElem hj
      have h3 := h.1 i j _ _ h1 h2 (by simpa using e)
      omega
    · obtain ⟨i, hi⟩ := List.getElem?_of_mem hq
      exact h.2 i q hi
  · intro h
    refine ⟨fun i j p q hi hj e => ?_, fun k q hk => h.2 q (List.mem_of_getElem? hk)⟩
    have hn := h.1
    rw [List.Nodup, List.pairwise_iff_getElem] at hn
    obtain ⟨hi1, hi2⟩ := List.getElem?_eq_some_iff.mp hi
    obtain ⟨hj1, hj2⟩ := List.getElem?_eq_some_iff.mp hj
    rcases Nat.lt_trichotomy i j with h9 | h9 | h9
    · have h8 := hn i j (by simpa using hi1) (by simpa using hj1) h9
      simp only [List.getElem_map, hi2, hj2] at h8
      exact absurd e h8
    · exact h9
    · have h8 := hn j i (by simpa using hj1) (by simpa using hi1) h9
      simp only [List.getElem_map, hi2, hj2] at h8
      exact absurd e.symm h8
theorem va_D.perm {A : Nat → Prop} {ws ws' : va_W} (h : va_D A ws) (p : ws.Perm ws') : va_D A ws' := by
  rw [va_D_iff] at h ⊢
  exact ⟨(p.map Prod.fst).nodup h.1, fun q hq => h.2 q (p.mem_iff.mpr hq)⟩
theorem va_D.left {A : Nat → Prop} {X R : va_W} (h : va_D A (X ++ R)) : va_D A X := by
  rw [va_D_iff] at h ⊢
  rw [List.map_append, List.nodup_append] at h
  exact ⟨h.1.1, fun q hq => h.2 q (List.mem_append_left _ hq)⟩
/-- the frame rule, up to the order of the cells -/
theorem frameG {A : Nat → Prop} {D : va_G} {cl : List vw_C} {ws ws' X X' R : va_W} {H H1 : Heap} (p1 : ws.Perm (X ++ R)) (p2 : ws'.Perm (X' ++ R)) (hP : va_P D cl ws H) (hD : va_D A ws)
    (hk : ∀ q : Nat, q < H.size → ¬ va_A X H.size q → H1[q]? = H[q]?) (hF : ∀ q, va_A X H.size q → A q) (hP1 : va_P D cl X' H1) (hD1 : va_D (va_A X H.size) X') : va_P D cl ws' H1 ∧ va_D A ws' := by
  have hD2 := hD.perm p1
  have hPR : va_P D cl R H := hP.mem (fun q hq => p1.mem_iff.mpr (List.mem_append_right _ hq))
  have hn : ∀ q ∈ R, ¬ va_A X H.size q.1 := fun q hq h9 => by
    rcases h9 with ⟨k, e, h8⟩ | h8
    · have h7 := List.mem_of_getElem? h8
      rw [va_D_iff, List.map_append, List.nodup_append] at hD2
      exact hD2.1.2.2 q.1 (List.mem_map.mpr ⟨_, h7, rfl⟩) q.1 (List.mem_map.mpr ⟨q, hq, rfl⟩) rfl
    · obtain ⟨i, hi⟩ := List.getElem?_of_mem hq
      have := (hPR i q hi).lt
      omega
  have hPR1 : va_P D cl R H1 := fun k q hk9 => (hPR k q hk9).kept (hk q.1 (hPR k q hk9).lt (hn q (List.mem_of_getElem? hk9)))
  constructor
  · have : va_P D cl (X' ++ R) H1 := fun k q hk9 => by
      rcases List.mem_append.mp (List.mem_of_getElem? hk9) with h9 | h9
      · obtain ⟨i, hi⟩ := List.getElem?_of_mem h9; exact hP1 i q hi
      · obtain ⟨i, hi⟩ := List.getElem?_of_mem h9; exact hPR1 i q hi
    exact this.mem (fun q hq => p2.mem_iff.mp hq)
  · refine va_D.perm (ws := X' ++ R) ?_ p2.symm
    rw [va_D_iff] at hD1 hD2 ⊢
    rw [List.map_append, List.nodup_append] at hD2 ⊢
    refine ⟨⟨hD1.1, hD2.1.2.1, fun a ha b hb e => ?_⟩, fun q hq => ?_⟩
    · obtain ⟨x, hx, rfl⟩ := List.mem_map.mp ha
      obtain ⟨y, hy, rfl⟩ := List.mem_map.mp hb
      exact hn y hy (e ▸ hD1.2 x hx)
    · rcases List.mem_append.mp hq with h9 | h9
      · exact hF _ (hD1.2 q h9)
      · exact hD2.2 q (List.mem_append_right _ h9)
theorem freeG {A : Nat → Prop} {ws X R : va_W} {H0 H : Heap} {locs : List Loc} (p1 : ws.Perm (X ++ R)) (hD : va_D A ws) (hS : va_S A H0 H locs) (hA : ∀ q, H0.size ≤ q → A q) : ∀ q, va_A X H.size q → A q := by
  rintro q (⟨k, e, h⟩ | h)
  · exact (va_D_iff.mp hD).2 (q, e) (p1.mem_iff.mpr (List.mem_append_left _ (List.mem_of_getElem? h)))
  · exact hA q (Nat.le_trans hS.1 h)
theorem apR {X Y : va_W} {n k : Nat} {q : Nat × va_E} (hn : X.length = n) (h : Y[k]? = some q) : (X ++ Y)[n + k]? = some q := by
  subst hn; rw [List.getElem?_append_right (by omega), show X.length + k - X.length = k by omega]; exact h
theorem stR {X Y : va_W} {n k : Nat} {q : Nat × va_E} (hn : X.length = n) : (X ++ Y).set (n + k) q = X ++ Y.set k q := by
  subst hn; rw [List.set_append_right _ _ (by omega), show X.length + k - X.length = k by omega]
/-- whole numbers: w's own cell, then the rows of their limbs -/
def WW (nW : Nat) (hw lw : Nat → Nat) (kw : ClassId) (wl wb : Nat → Int32) (wG : Nat → Nat → Int64) : va_W := (List.range nW).map (fun w => (hw w, .inr (8, [.ref (lw w), .int (wl w), .int (wb w)]))) ++ (List.range nW).map (fun w => (lw w, .inl (kw, 14, .inr (.inl (wG w)))))
def tW (kw : ClassId) : List (ClassId × FieldType) := [(kw, .long)]
theorem WW_o {nW : Nat} {hw lw : Nat → Nat} {kw : ClassId} {wl wb : Nat → Int32} {wG : Nat → Nat → Int64} {w : Nat} (h : w < nW) : (WW nW hw lw kw wl wb wG)[w]? = some (hw w, .inr (8, [.ref (lw w), .int (wl w), .int (wb w)])) := by
  unfold WW
  rw [List.getElem?_append_left (by simpa using h), List.getElem?_map, List.getElem?_range h]; rfl
theorem WW_a {nW : Nat} {hw lw : Nat → Nat} {kw : ClassId} {wl wb : Nat → Int32} {wG : Nat → Nat → Int64} {w : Nat} (h : w < nW) : (WW nW hw lw kw wl wb wG)[nW + w]? = some (lw w, .inl (kw, 14, .inr (.inl (wG w)))) := by
  unfold WW
  exact apR (by simp) (by rw [List.getElem?_map, List.getElem?_range h]; rfl)
theorem map_setW {α : Type} (n w : Nat) (h : w < n) (f g : Nat → α) (x : α) (hx : x = g w) (ho : ∀ q, q ≠ w → f q = g q) : ((List.range n).map f).set w x = (List.range n).map g := by
  apply List.ext_getElem?
  intro q
  rw [List.getElem?_set, List.getElem?_map, List.getElem?_map]
  by_cases e : w = q
  · subst e; simp [h, hx]
  · rcases Nat.lt_or_ge q n with hq | hq
    · rw [List.getElem?_range hq]; simp [e, ho q (fun h9 => e h9.symm)]
    · simp [e, List.getElem?_eq_none (show (List.range n).length ≤ q by simpa using hq)]
theorem WW_sl {nW : Nat} {hw lw : Nat → Nat} {kw : ClassId} {wl wb : Nat → Int32} {wG : Nat → Nat → Int64} {w : Nat} (h : w < nW) (x : Int32) : (WW nW hw lw kw wl wb wG).set w (hw w, .inr (8, [.ref (lw w), .int x, .int (wb w)])) = WW nW hw lw kw (fT wl w x) wb wG := by
  unfold WW
  rw [List.set_append_left _ _ (by simpa using h)]
  congr 1
  exact map_setW nW w h _ _ _ (by simp [fT_eq]) (fun q hq => by simp [fT_ne _ _ hq])
theorem WW_sb {nW : Nat} {hw lw : Nat → Nat} {kw : ClassId} {wl wb : Nat → Int32} {wG : Nat → Nat → Int64} {w : Nat} (h : w < nW) (x : Int32) : (WW nW hw lw kw wl wb wG).set w (hw w, .inr (8, [.ref (lw w), .int (wl w), .int x])) = WW nW hw lw kw wl (fT wb w x) wG := by
  unfold WW
  rw [List.set_append_left _ _ (by simpa using h)]
  congr 1
  exact map_setW nW w h _ _ _ (by simp [fT_eq]) (fun q hq => by simp [fT_ne _ _ hq])
theorem WW_sg {nW : Nat} {hw lw : Nat → Nat} {kw : ClassId} {wl wb : Nat → Int32} {wG : Nat → Nat → Int64} {w : Nat} (h : w < nW) (f : Nat → Int64) : (WW nW hw lw kw wl wb wG).set (nW + w) (lw w, .inl (kw, 14, .inr (.inl f))) = WW nW hw lw kw wl wb (fT wG w f) := by
  unfold WW
  rw [stR (by simp)]
  congr 1
  exact map_setW nW w h _ _ _ (by simp [fT_eq]) (fun q hq => by simp [fT_ne _ _ hq])
theorem fT_r {f : Nat → Int32} {lo hi : Int} (h : ∀ q : Nat, lo ≤ (f q).toInt ∧ (f q).toInt ≤ hi) {x : Int32} (hx : lo ≤ x.toInt ∧ x.toInt ≤ hi) {n : Nat} : ∀ q : Nat, lo ≤ (fT f n x q).toInt ∧ (fT f n x q).toInt ≤ hi := fun q => by
  by_cases e : q = n
  · rw [e, fT_eq]; exact hx
  · rw [fT_ne _ _ e]; exact h q

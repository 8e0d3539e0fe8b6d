/-- what stands behind a place of a list: the place's own, and the rest -/
theorem dk_cons {α : Type} : ∀ (p : Nat) (L : List α) (b : α) (r : List α), L.drop p = b :: r → (∃ h : p < L.length, L[p] = b) ∧ L.drop (p + 1) = r := by
  intro p
  induction p with
  | zero =>
    intro L b r h
    cases L with
    | nil => simp at h
    | cons x L => simp at h; obtain ⟨rfl, rfl⟩ := h; exact ⟨⟨Nat.succ_pos _, rfl⟩, rfl⟩
  | succ p ih =>
    intro L b r h
    cases L with
    | nil => simp at h
    | cons x L =>
      rw [List.drop_succ_cons] at h
      obtain ⟨⟨h1, h2⟩, h3⟩ := ih L b r h
      refine ⟨⟨Nat.succ_lt_succ h1, ?_⟩, ?_⟩
      · rw [List.getElem_cons_succ]; exact h2
      · rw [List.drop_succ_cons]; exact h3
/-- the bytes from p on -/
def dkL (c : ByteArray) (p : Nat) : List UInt8 := c.data.toList.drop p
theorem dk_u1 {c : ByteArray} {p : Nat} {b : UInt8} {r : List UInt8} (h : dkL c p = b :: r) : Reader.runAt (Reader.u1 : Decoder Nat) c p = .ok (b.toNat, p + 1) ∧ dkL c (p + 1) = r := by
  obtain ⟨⟨L⟩⟩ := c
  obtain ⟨⟨h1, h2⟩, h3⟩ := dk_cons p L b r h
  refine ⟨?_, h3⟩
  have h4 : p < (ByteArray.mk (Array.mk L)).size := h1
  have h5 : (ByteArray.mk (Array.mk L))[p] = b := h2
  have h6 : Reader.runAt (Reader.u1 : Decoder Nat) (ByteArray.mk (Array.mk L)) p = (dite (p < (ByteArray.mk (Array.mk L)).size) (fun h => ((MonadStateOf.set (p + 1) : Decoder PUnit) >>= fun _ => Pure.pure ((ByteArray.mk (Array.mk L))[p].toNat))) (fun _ => throwThe DecodeError (HasTruncated.truncated p)) : Decoder Nat) (ByteArray.mk (Array.mk L)) p := rfl
  rw [h6, dif_pos h4, h5]
  rfl
theorem dk_bind {α β : Type} {m : Decoder α} {f : α → Decoder β} {c : ByteArray} {p q : Nat} {a : α} (h : Reader.runAt m c p = .ok (a, q)) : Reader.runAt (m >>= f) c p = Reader.runAt (f a) c q := by
  have h1 : m c p = .ok (a, q) := h
  have h2 : Reader.runAt (m >>= f) c p = Except.bind (m c p) (fun x => f x.1 c x.2) := rfl
  rw [h2, h1]
  rfl
theorem dk_map {α β : Type} {m : Decoder α} {g : α → β} {c : ByteArray} {p q : Nat} {a : α} (h : Reader.runAt m c p = .ok (a, q)) : Reader.runAt (g <$> m) c p = .ok (g a, q) := by
  have h1 : m c p = .ok (a, q) := h
  have h2 : Reader.runAt (g <$> m) c p = Except.bind (m c p) (fun x => Except.ok (g x.1, x.2)) := rfl
  rw [h2, h1]
  rfl
theorem dk_u2 {c : ByteArray} {p : Nat} {a b : UInt8} {r : List UInt8} (h : dkL c p = a :: b :: r) : Reader.runAt (Reader.u2 : Decoder Nat) c p = .ok (a.toNat * 256 + b.toNat, p + 2) := by
  obtain ⟨h1, h2⟩ := dk_u1 h
  obtain ⟨h3, _⟩ := dk_u1 h2
  have h4 : (Reader.u2 : Decoder Nat) = Reader.u1 >>= fun hi => Reader.u1 >>= fun lo => Pure.pure (hi * 256 + lo) := rfl
  rw [h4, dk_bind h1, dk_bind h3]
  rfl
theorem dk_of {c : ByteArray} {pc n k : Nat} {i : Instr} {K : Nat → Decoder Instr} {b : UInt8} {r : List UInt8} (hI : Decoder.instr pc = Reader.u1 >>= K) (h : dkL c pc = b :: r) (hb : b.toNat = n) (hK : Reader.runAt (K n) c (pc + 1) = .ok (i, pc + k)) : decode c pc = .ok (i, k) := by
  have h1 : Reader.runAt (Decoder.instr pc) c pc = .ok (i, pc + k) := by
    rw [hI, dk_bind (dk_u1 h).1, hb]; exact hK
  have h2 : decode c pc = Except.bind (Reader.runAt (Decoder.instr pc) c pc) (fun x => Except.ok (x.1, x.2 - pc)) := rfl
  rw [h2, h1]
  show Except.ok (i, pc + k - pc) = _
  rw [Nat.add_sub_cancel_left]
def dk1 (c : ByteArray) (p op : Nat) : Bool := match dkL c p with | b :: _ => Nat.beq b.toNat op | _ => false
def dk2 (c : ByteArray) (p op n : Nat) : Bool := match dkL c p with | b :: a :: _ => Nat.beq b.toNat op && Nat.beq a.toNat n | _ => false
def dk2s (c : ByteArray) (p op : Nat) (v : Int) : Bool := match dkL c p with | b :: a :: _ => Nat.beq b.toNat op && decide (Reader.signed 8 a.toNat = v) | _ => false
def dk3 (c : ByteArray) (p op n : Nat) : Bool := match dkL c p with | b :: a1 :: a2 :: _ => Nat.beq b.toNat op && Nat.beq (a1.toNat * 256 + a2.toNat) n | _ => false
def dk3s (c : ByteArray) (p op : Nat) (v : Int) : Bool := match dkL c p with | b :: a1 :: a2 :: _ => Nat.beq b.toNat op && decide (Reader.signed 16 (a1.toNat * 256 + a2.toNat) = v) | _ => false
def dk3i (c : ByteArray) (p n : Nat) (v : Int) : Bool := match dkL c p with | b :: a1 :: a2 :: _ => Nat.beq b.toNat 132 && (Nat.beq a1.toNat n && decide (Reader.signed 8 a2.toNat = v)) | _ => false
theorem dk1_of {c : ByteArray} {pc op : Nat} {i : Instr} {K : Nat → Decoder Instr} (hI : Decoder.instr pc = Reader.u1 >>= K) (hK : K op = Pure.pure i) (h : dk1 c pc op = true) : decode c pc = .ok (i, 1) := by
  unfold dk1 at h
  split at h
  · rename_i b r hd
    exact dk_of hI hd (Nat.eq_of_beq_eq_true h) (by rw [hK]; rfl)
  · exact absurd h (by decide)
theorem dk2_of {c : ByteArray} {pc op n : Nat} {f : Nat → Instr} {K : Nat → Decoder Instr} (hI : Decoder.instr pc = Reader.u1 >>= K) (hK : K op = (Reader.u1 >>= fun x => Pure.pure (f x))) (h : dk2 c pc op n = true) : decode c pc = .ok (f n, 2) := by
  unfold dk2 at h
  split at h
  · rename_i b a r hd
    have h1 := (Bool.and_eq_true _ _).mp h
    have e2 := Nat.eq_of_beq_eq_true h1.2
    exact dk_of hI hd (Nat.eq_of_beq_eq_true h1.1) (by rw [hK, dk_bind (dk_u1 (dk_u1 hd).2).1, e2]; rfl)
  · exact absurd h (by decide)
theorem dk2s_of {c : ByteArray} {pc op : Nat} {v : Int} {f : Int → Instr} {K : Nat → Decoder Instr} (hI : Decoder.instr pc = Reader.u1 >>= K) (hK : K op = (Reader.s1 >>= fun x => Pure.pure (f x))) (h : dk2s c pc op v = true) : decode c pc = .ok (f v, 2) := by
  unfold dk2s at h
  split at h
  · rename_i b a r hd
    have h1 := (Bool.and_eq_true _ _).mp h
    have e2 := of_decide_eq_true h1.2
    have h3 : Reader.runAt (Reader.s1 : Decoder Int) c (pc + 1) = .ok (Reader.signed 8 a.toNat, pc + 1 + 1) := dk_map (dk_u1 (dk_u1 hd).2).1
    exact dk_of hI hd (Nat.eq_of_beq_eq_true h1.1) (by rw [hK, dk_bind h3, e2]; rfl)
  · exact absurd h (by decide)
theorem dk3_of {c : ByteArray} {pc op n : Nat} {f : Nat → Instr} {K : Nat → Decoder Instr} (hI : Decoder.instr pc = Reader.u1 >>= K) (hK : K op = (Reader.u2 >>= fun x => Pure.pure (f x))) (h : dk3 c pc op n = true) : decode c pc = .ok (f n, 3) := by
  unfold dk3 at h
  split at h
  · rename_i b a1 a2 r hd
    have h1 := (Bool.and_eq_true _ _).mp h
    have e2 := Nat.eq_of_beq_eq_true h1.2
    exact dk_of hI hd (Nat.eq_of_beq_eq_true h1.1) (by rw [hK, dk_bind (dk_u2 (dk_u1 hd).2), e2]; rfl)
  · exact absurd h (by decide)
theorem dk3s_of {c : ByteArray} {pc op : Nat} {v : Int} {f : Int → Instr} {K : Nat → Decoder Instr} (hI : Decoder.instr pc = Reader.u1 >>= K) (hK : K op = (Reader.s2 >>= fun x => Pure.pure (f x))) (h : dk3s c pc op v = true) : decode c pc = .ok (f v, 3) := by
  unfold dk3s at h
  split at h
  · rename_i b a1 a2 r hd
    have h1 := (Bool.and_eq_true _ _).mp h
    have e2 := of_decide_eq_true h1.2
    have h3 : Reader.runAt (Reader.s2 : Decoder Int) c (pc + 1) = .ok (Reader.signed 16 (a1.toNat * 256 + a2.toNat), pc + 1 + 2) := dk_map (dk_u2 (dk_u1 hd).2)
    exact dk_of hI hd (Nat.eq_of_beq_eq_true h1.1) (by rw [hK, dk_bind h3, e2]; rfl)
  · exact absurd h (by decide)
set_option maxRecDepth 20000 in
theorem dk_132 {c : ByteArray} {pc n : Nat} {v : Int} (h : dk3i c pc n v = true) : decode c pc = .ok (.iinc n v, 3) := by
  unfold dk3i at h
  split at h
  · rename_i b a1 a2 r hd
    have h1 := (Bool.and_eq_true _ _).mp h
    have h2 := (Bool.and_eq_true _ _).mp h1.2
    have e1 := Nat.eq_of_beq_eq_true h2.1
    have e2 := of_decide_eq_true h2.2
    have g1 := dk_u1 (dk_u1 hd).2
    have g2 : Reader.runAt (Reader.s1 : Decoder Int) c (pc + 1 + 1) = .ok (Reader.signed 8 a2.toNat, pc + 1 + 1 + 1) := dk_map (dk_u1 g1.2).1
    refine dk_of (K := _) rfl hd (Nat.eq_of_beq_eq_true h1.1) ?_
    show Reader.runAt ((Reader.u1 : Decoder Nat) >>= fun x => (Reader.s1 : Decoder Int) >>= fun y => Pure.pure (Instr.iinc x y)) c (pc + 1) = _
    rw [dk_bind g1.1, dk_bind g2, e1, e2]; rfl
  · exact absurd h (by decide)
set_option maxRecDepth 20000 in
theorem dk_1 {c : ByteArray} {pc : Nat} (h : dk1 c pc 1 = true) : decode c pc = .ok (.aconst_null, 1) := dk1_of (K := _) rfl rfl h
set_option maxRecDepth 20000 in
theorem dk_2 {c : ByteArray} {pc : Nat} (h : dk1 c pc 2 = true) : decode c pc = .ok (.iconst (-1), 1) := dk1_of (K := _) rfl rfl h
set_option maxRecDepth 20000 in
theorem dk_3 {c : ByteArray} {pc : Nat} (h : dk1 c pc 3 = true) : decode c pc = .ok (.iconst 0, 1) := dk1_of (K := _) rfl rfl h
set_option maxRecDepth 20000 in
theorem dk_4 {c : ByteArray} {pc : Nat} (h : dk1 c pc 4 = true) : decode c pc = .ok (.iconst 1, 1) := dk1_of (K := _) rfl rfl h
set_option maxRecDepth 20000 in
theorem dk_5 {c : ByteArray} {pc : Nat} (h : dk1 c pc 5 = true) : decode c pc = .ok (.iconst 2, 1) := dk1_of (K := _) rfl rfl h
set_option maxRecDepth 20000 in
theorem dk_6 {c : ByteArray} {pc : Nat} (h : dk1 c pc 6 = true) : decode c pc = .ok (.iconst 3, 1) := dk1_of (K := _) rfl rfl h
set_option maxRecDepth 20000 in
theorem dk_7 {c : ByteArray} {pc : Nat} (h : dk1 c pc 7 = true) : decode c pc = .ok (.iconst 4, 1) := dk1_of (K := _) rfl rfl h
set_option maxRecDepth 20000 in
theorem dk_8 {c : ByteArray} {pc : Nat} (h : dk1 c pc 8 = true) : decode c pc = .ok (.iconst 5, 1) := dk1_of (K := _) rfl rfl h
set_option maxRecDepth 20000 in
theorem dk_9 {c : ByteArray} {pc : Nat} (h : dk1 c pc 9 = true) : decode c pc = .ok (.lconst 0, 1) := dk1_of (K := _) rfl rfl h
set_option maxRecDepth 20000 in
theorem dk_10 {c : ByteArray} {pc : Nat} (h : dk1 c pc 10 = true) : decode c pc = .ok (.lconst 1, 1) := dk1_of (K := _) rfl rfl h
set_option maxRecDepth 20000 in
theorem dk_26 {c : ByteArray} {pc : Nat} (h : dk1 c pc 26 = true) : decode c pc = .ok (.iload_n 0, 1) := dk1_of (K := _) rfl rfl h
set_option maxRecDepth 20000 in
theorem dk_27 {c : ByteArray} {pc : Nat} (h : dk1 c pc 27 = true) : decode c pc = .ok (.iload_n 1, 1) := dk1_of (K := _) rfl rfl h
set_option maxRecDepth 20000 in
theorem dk_28 {c : ByteArray} {pc : Nat} (h : dk1 c pc 28 = true) : decode c pc = .ok (.iload_n 2, 1) := dk1_of (K := _) rfl rfl h
set_option maxRecDepth 20000 in
theorem dk_29 {c : ByteArray} {pc : Nat} (h : dk1 c pc 29 = true) : decode c pc = .ok (.iload_n 3, 1) := dk1_of (K := _) rfl rfl h
set_option maxRecDepth 20000 in
theorem dk_30 {c : ByteArray} {pc : Nat} (h : dk1 c pc 30 = true) : decode c pc = .ok (.lload_n 0, 1) := dk1_of (K := _) rfl rfl h
set_option maxRecDepth 20000 in
theorem dk_31 {c : ByteArray} {pc : Nat} (h : dk1 c pc 31 = true) : decode c pc = .ok (.lload_n 1, 1) := dk1_of (K := _) rfl rfl h
set_option maxRecDepth 20000 in
theorem dk_32 {c : ByteArray} {pc : Nat} (h : dk1 c pc 32 = true) : decode c pc = .ok (.lload_n 2, 1) := dk1_of (K := _) rfl rfl h
set_option maxRecDepth 20000 in
theorem dk_33 {c : ByteArray} {pc : Nat} (h : dk1 c pc 33 = true) : decode c pc = .ok (.lload_n 3, 1) := dk1_of (K := _) rfl rfl h
set_option maxRecDepth 20000 in
theorem dk_42 {c : ByteArray} {pc : Nat} (h : dk1 c pc 42 = true) : decode c pc = .ok (.aload_n 0, 1) := dk1_of (K := _) rfl rfl h
set_option maxRecDepth 20000 in
theorem dk_43 {c : ByteArray} {pc : Nat} (h : dk1 c pc 43 = true) : decode c pc = .ok (.aload_n 1, 1) := dk1_of (K := _) rfl rfl h
set_option maxRecDepth 20000 in
theorem dk_44 {c : ByteArray} {pc : Nat} (h : dk1 c pc 44 = true) : decode c pc = .ok (.aload_n 2, 1) := dk1_of (K := _) rfl rfl h
set_option maxRecDepth 20000 in
theorem dk_45 {c : ByteArray} {pc : Nat} (h : dk1 c pc 45 = true) : decode c pc = .ok (.aload_n 3, 1) := dk1_of (K := _) rfl rfl h
set_option maxRecDepth 20000 in
theorem dk_46 {c : ByteArray} {pc : Nat} (h : dk1 c pc 46 = true) : decode c pc = .ok (.iaload, 1) := dk1_of (K := _) rfl rfl h
set_option maxRecDepth 20000 in
theorem dk_47 {c : ByteArray} {pc : Nat} (h : dk1 c pc 47 = true) : decode c pc = .ok (.laload, 1) := dk1_of (K := _) rfl rfl h
set_option maxRecDepth 20000 in
theorem dk_50 {c : ByteArray} {pc : Nat} (h : dk1 c pc 50 = true) : decode c pc = .ok (.aaload, 1) := dk1_of (K := _) rfl rfl h
set_option maxRecDepth 20000 in
theorem dk_51 {c : ByteArray} {pc : Nat} (h : dk1 c pc 51 = true) : decode c pc = .ok (.baload, 1) := dk1_of (K := _) rfl rfl h
set_option maxRecDepth 20000 in
theorem dk_52 {c : ByteArray} {pc : Nat} (h : dk1 c pc 52 = true) : decode c pc = .ok (.caload, 1) := dk1_of (K := _) rfl rfl h
set_option maxRecDepth 20000 in
theorem dk_53 {c : ByteArray} {pc : Nat} (h : dk1 c pc 53 = true) : decode c pc = .ok (.saload, 1) := dk1_of (K := _) rfl rfl h
set_option maxRecDepth 20000 in
theorem dk_59 {c : ByteArray} {pc : Nat} (h : dk1 c pc 59 = true) : decode c pc = .ok (.istore_n 0, 1) := dk1_of (K := _) rfl rfl h
set_option maxRecDepth 20000 in
theorem dk_60 {c : ByteArray} {pc : Nat} (h : dk1 c pc 60 = true) : decode c pc = .ok (.istore_n 1, 1) := dk1_of (K := _) rfl rfl h
set_option maxRecDepth 20000 in
theorem dk_61 {c : ByteArray} {pc : Nat} (h : dk1 c pc 61 = true) : decode c pc = .ok (.istore_n 2, 1) := dk1_of (K := _) rfl rfl h
set_option maxRecDepth 20000 in
theorem dk_62 {c : ByteArray} {pc : Nat} (h : dk1 c pc 62 = true) : decode c pc = .ok (.istore_n 3, 1) := dk1_of (K := _) rfl rfl h
set_option maxRecDepth 20000 in
theorem dk_63 {c : ByteArray} {pc : Nat} (h : dk1 c pc 63 = true) : decode c pc = .ok (.lstore_n 0, 1) := dk1_of (K := _) rfl rfl h
set_option maxRecDepth 20000 in
theorem dk_64 {c : ByteArray} {pc : Nat} (h : dk1 c pc 64 = true) : decode c pc = .ok (.lstore_n 1, 1) := dk1_of (K := _) rfl rfl h
set_option maxRecDepth 20000 in
theorem dk_65 {c : ByteArray} {pc : Nat} (h : dk1 c pc 65 = true) : decode c pc = .ok (.lstore_n 2, 1) := dk1_of (K := _) rfl rfl h
set_option maxRecDepth 20000 in
theorem dk_66 {c : ByteArray} {pc : Nat} (h : dk1 c pc 66 = true) : decode c pc = .ok (.lstore_n 3, 1) := dk1_of (K := _) rfl rfl h
set_option maxRecDepth 20000 in
theorem dk_75 {c : ByteArray} {pc : Nat} (h : dk1 c pc 75 = true) : decode c pc = .ok (.astore_n 0, 1) := dk1_of (K := _) rfl rfl h
set_option maxRecDepth 20000 in
theorem dk_76 {c : ByteArray} {pc : Nat} (h : dk1 c pc 76 = true) : decode c pc = .ok (.astore_n 1, 1) := dk1_of (K := _) rfl rfl h
set_option maxRecDepth 20000 in
theorem dk_77 {c : ByteArray} {pc : Nat} (h : dk1 c pc 77 = true) : decode c pc = .ok (.astore_n 2, 1) := dk1_of (K := _) rfl rfl h
set_option maxRecDepth 20000 in
theorem dk_78 {c : ByteArray} {pc : Nat} (h : dk1 c pc 78 = true) : decode c pc = .ok (.astore_n 3, 1) := dk1_of (K := _) rfl rfl h
set_option maxRecDepth 20000 in
theorem dk_79 {c : ByteArray} {pc : Nat} (h : dk1 c pc 79 = true) : decode c pc = .ok (.iastore, 1) := dk1_of (K := _) rfl rfl h
set_option maxRecDepth 20000 in
theorem dk_80 {c : ByteArray} {pc : Nat} (h : dk1 c pc 80 = true) : decode c pc = .ok (.lastore, 1) := dk1_of (K := _) rfl rfl h
set_option maxRecDepth 20000 in
theorem dk_83 {c : ByteArray} {pc : Nat} (h : dk1 c pc 83 = true) : decode c pc = .ok (.aastore, 1) := dk1_of (K := _) rfl rfl h
set_option maxRecDepth 20000 in
theorem dk_84 {c : ByteArray} {pc : Nat} (h : dk1 c pc 84 = true) : decode c pc = .ok (.bastore, 1) := dk1_of (K := _) rfl rfl h
set_option maxRecDepth 20000 in
theorem dk_85 {c : ByteArray} {pc : Nat} (h : dk1 c pc 85 = true) : decode c pc = .ok (.castore, 1) := dk1_of (K := _) rfl rfl h
set_option maxRecDepth 20000 in
theorem dk_87 {c : ByteArray} {pc : Nat} (h : dk1 c pc 87 = true) : decode c pc = .ok (.pop, 1) := dk1_of (K := _) rfl rfl h
set_option maxRecDepth 20000 in
theorem dk_88 {c : ByteArray} {pc : Nat} (h : dk1 c pc 88 = true) : decode c pc = .ok (.pop2, 1) := dk1_of (K := _) rfl rfl h
set_option maxRecDepth 20000 in
theorem dk_89 {c : ByteArray} {pc : Nat} (h : dk1 c pc 89 = true) : decode c pc = .ok (.dup, 1) := dk1_of (K := _) rfl rfl h
set_option maxRecDepth 20000 in
theorem dk_90 {c : ByteArray} {pc : Nat} (h : dk1 c pc 90 = true) : decode c pc = .ok (.dup_x1, 1) := dk1_of (K := _) rfl rfl h
set_option maxRecDepth 20000 in
theorem dk_91 {c : ByteArray} {pc : Nat} (h : dk1 c pc 91 = true) : decode c pc = .ok (.dup_x2, 1) := dk1_of (K := _) rfl rfl h
set_option maxRecDepth 20000 in
theorem dk_92 {c : ByteArray} {pc : Nat} (h : dk1 c pc 92 = true) : decode c pc = .ok (.dup2, 1) := dk1_of (K := _) rfl rfl h
set_option maxRecDepth 20000 in
theorem dk_95 {c : ByteArray} {pc : Nat} (h : dk1 c pc 95 = true) : decode c pc = .ok (.swap, 1) := dk1_of (K := _) rfl rfl h
set_option maxRecDepth 20000 in
theorem dk_96 {c : ByteArray} {pc : Nat} (h : dk1 c pc 96 = true) : decode c pc = .ok (.iadd, 1) := dk1_of (K := _) rfl rfl h
set_option maxRecDepth 20000 in
theorem dk_97 {c : ByteArray} {pc : Nat} (h : dk1 c pc 97 = true) : decode c pc = .ok (.ladd, 1) := dk1_of (K := _) rfl rfl h
set_option maxRecDepth 20000 in
theorem dk_100 {c : ByteArray} {pc : Nat} (h : dk1 c pc 100 = true) : decode c pc = .ok (.isub, 1) := dk1_of (K := _) rfl rfl h
set_option maxRecDepth 20000 in
theorem dk_101 {c : ByteArray} {pc : Nat} (h : dk1 c pc 101 = true) : decode c pc = .ok (.lsub, 1) := dk1_of (K := _) rfl rfl h
set_option maxRecDepth 20000 in
theorem dk_104 {c : ByteArray} {pc : Nat} (h : dk1 c pc 104 = true) : decode c pc = .ok (.imul, 1) := dk1_of (K := _) rfl rfl h
set_option maxRecDepth 20000 in
theorem dk_105 {c : ByteArray} {pc : Nat} (h : dk1 c pc 105 = true) : decode c pc = .ok (.lmul, 1) := dk1_of (K := _) rfl rfl h
set_option maxRecDepth 20000 in
theorem dk_108 {c : ByteArray} {pc : Nat} (h : dk1 c pc 108 = true) : decode c pc = .ok (.idiv, 1) := dk1_of (K := _) rfl rfl h
set_option maxRecDepth 20000 in
theorem dk_109 {c : ByteArray} {pc : Nat} (h : dk1 c pc 109 = true) : decode c pc = .ok (.ldiv, 1) := dk1_of (K := _) rfl rfl h
set_option maxRecDepth 20000 in
theorem dk_112 {c : ByteArray} {pc : Nat} (h : dk1 c pc 112 = true) : decode c pc = .ok (.irem, 1) := dk1_of (K := _) rfl rfl h
set_option maxRecDepth 20000 in
theorem dk_113 {c : ByteArray} {pc : Nat} (h : dk1 c pc 113 = true) : decode c pc = .ok (.lrem, 1) := dk1_of (K := _) rfl rfl h
set_option maxRecDepth 20000 in
theorem dk_116 {c : ByteArray} {pc : Nat} (h : dk1 c pc 116 = true) : decode c pc = .ok (.ineg, 1) := dk1_of (K := _) rfl rfl h
set_option maxRecDepth 20000 in
theorem dk_117 {c : ByteArray} {pc : Nat} (h : dk1 c pc 117 = true) : decode c pc = .ok (.lneg, 1) := dk1_of (K := _) rfl rfl h
set_option maxRecDepth 20000 in
theorem dk_120 {c : ByteArray} {pc : Nat} (h : dk1 c pc 120 = true) : decode c pc = .ok (.ishl, 1) := dk1_of (K := _) rfl rfl h
set_option maxRecDepth 20000 in
theorem dk_121 {c : ByteArray} {pc : Nat} (h : dk1 c pc 121 = true) : decode c pc = .ok (.lshl, 1) := dk1_of (K := _) rfl rfl h
set_option maxRecDepth 20000 in
theorem dk_122 {c : ByteArray} {pc : Nat} (h : dk1 c pc 122 = true) : decode c pc = .ok (.ishr, 1) := dk1_of (K := _) rfl rfl h
set_option maxRecDepth 20000 in
theorem dk_123 {c : ByteArray} {pc : Nat} (h : dk1 c pc 123 = true) : decode c pc = .ok (.lshr, 1) := dk1_of (K := _) rfl rfl h
set_option maxRecDepth 20000 in
theorem dk_124 {c : ByteArray} {pc : Nat} (h : dk1 c pc 124 = true) : decode c pc = .ok (.iushr, 1) := dk1_of (K := _) rfl rfl h
set_option maxRecDepth 20000 in
theorem dk_125 {c : ByteArray} {pc : Nat} (h : dk1 c pc 125 = true) : decode c pc = .ok (.lushr, 1) := dk1_of (K := _) rfl rfl h
set_option maxRecDepth 20000 in
theorem dk_126 {c : ByteArray} {pc : Nat} (h : dk1 c pc 126 = true) : decode c pc = .ok (.iand, 1) := dk1_of (K := _) rfl rfl h
set_option maxRecDepth 20000 in
theorem dk_127 {c : ByteArray} {pc : Nat} (h : dk1 c pc 127 = true) : decode c pc = .ok (.land, 1) := dk1_of (K := _) rfl rfl h
set_option maxRecDepth 20000 in
theorem dk_128 {c : ByteArray} {pc : Nat} (h : dk1 c pc 128 = true) : decode c pc = .ok (.ior, 1) := dk1_of (K := _) rfl rfl h
set_option maxRecDepth 20000 in
theorem dk_129 {c : ByteArray} {pc : Nat} (h : dk1 c pc 129 = true) : decode c pc = .ok (.lor, 1) := dk1_of (K := _) rfl rfl h
set_option maxRecDepth 20000 in
theorem dk_130 {c : ByteArray} {pc : Nat} (h : dk1 c pc 130 = true) : decode c pc = .ok (.ixor, 1) := dk1_of (K := _) rfl rfl h
set_option maxRecDepth 20000 in
theorem dk_131 {c : ByteArray} {pc : Nat} (h : dk1 c pc 131 = true) : decode c pc = .ok (.lxor, 1) := dk1_of (K := _) rfl rfl h
set_option maxRecDepth 20000 in
theorem dk_133 {c : ByteArray} {pc : Nat} (h : dk1 c pc 133 = true) : decode c pc = .ok (.i2l, 1) := dk1_of (K := _) rfl rfl h
set_option maxRecDepth 20000 in
theorem dk_136 {c : ByteArray} {pc : Nat} (h : dk1 c pc 136 = true) : decode c pc = .ok (.l2i, 1) := dk1_of (K := _) rfl rfl h
set_option maxRecDepth 20000 in
theorem dk_145 {c : ByteArray} {pc : Nat} (h : dk1 c pc 145 = true) : decode c pc = .ok (.i2b, 1) := dk1_of (K := _) rfl rfl h
set_option maxRecDepth 20000 in
theorem dk_146 {c : ByteArray} {pc : Nat} (h : dk1 c pc 146 = true) : decode c pc = .ok (.i2c, 1) := dk1_of (K := _) rfl rfl h
set_option maxRecDepth 20000 in
theorem dk_147 {c : ByteArray} {pc : Nat} (h : dk1 c pc 147 = true) : decode c pc = .ok (.i2s, 1) := dk1_of (K := _) rfl rfl h
set_option maxRecDepth 20000 in
theorem dk_148 {c : ByteArray} {pc : Nat} (h : dk1 c pc 148 = true) : decode c pc = .ok (.lcmp, 1) := dk1_of (K := _) rfl rfl h
set_option maxRecDepth 20000 in
theorem dk_172 {c : ByteArray} {pc : Nat} (h : dk1 c pc 172 = true) : decode c pc = .ok (.ireturn, 1) := dk1_of (K := _) rfl rfl h
set_option maxRecDepth 20000 in
theorem dk_173 {c : ByteArray} {pc : Nat} (h : dk1 c pc 173 = true) : decode c pc = .ok (.lreturn, 1) := dk1_of (K := _) rfl rfl h
set_option maxRecDepth 20000 in
theorem dk_176 {c : ByteArray} {pc : Nat} (h : dk1 c pc 176 = true) : decode c pc = .ok (.areturn, 1) := dk1_of (K := _) rfl rfl h
set_option maxRecDepth 20000 in
theorem dk_177 {c : ByteArray} {pc : Nat} (h : dk1 c pc 177 = true) : decode c pc = .ok (.return_, 1) := dk1_of (K := _) rfl rfl h
set_option maxRecDepth 20000 in
theorem dk_190 {c : ByteArray} {pc : Nat} (h : dk1 c pc 190 = true) : decode c pc = .ok (.arraylength, 1) := dk1_of (K := _) rfl rfl h
set_option maxRecDepth 20000 in
theorem dk_191 {c : ByteArray} {pc : Nat} (h : dk1 c pc 191 = true) : decode c pc = .ok (.athrow, 1) := dk1_of (K := _) rfl rfl h
set_option maxRecDepth 20000 in
theorem dk_18 {c : ByteArray} {pc n : Nat} (h : dk2 c pc 18 n = true) : decode c pc = .ok (.ldc n, 2) := dk2_of (f := fun x => .ldc x) (K := _) rfl rfl h
set_option maxRecDepth 20000 in
theorem dk_21 {c : ByteArray} {pc n : Nat} (h : dk2 c pc 21 n = true) : decode c pc = .ok (.iload n, 2) := dk2_of (f := fun x => .iload x) (K := _) rfl rfl h
set_option maxRecDepth 20000 in
theorem dk_22 {c : ByteArray} {pc n : Nat} (h : dk2 c pc 22 n = true) : decode c pc = .ok (.lload n, 2) := dk2_of (f := fun x => .lload x) (K := _) rfl rfl h
set_option maxRecDepth 20000 in
theorem dk_25 {c : ByteArray} {pc n : Nat} (h : dk2 c pc 25 n = true) : decode c pc = .ok (.aload n, 2) := dk2_of (f := fun x => .aload x) (K := _) rfl rfl h
set_option maxRecDepth 20000 in
theorem dk_54 {c : ByteArray} {pc n : Nat} (h : dk2 c pc 54 n = true) : decode c pc = .ok (.istore n, 2) := dk2_of (f := fun x => .istore x) (K := _) rfl rfl h
set_option maxRecDepth 20000 in
theorem dk_55 {c : ByteArray} {pc n : Nat} (h : dk2 c pc 55 n = true) : decode c pc = .ok (.lstore n, 2) := dk2_of (f := fun x => .lstore x) (K := _) rfl rfl h
set_option maxRecDepth 20000 in
theorem dk_58 {c : ByteArray} {pc n : Nat} (h : dk2 c pc 58 n = true) : decode c pc = .ok (.astore n, 2) := dk2_of (f := fun x => .astore x) (K := _) rfl rfl h
set_option maxRecDepth 20000 in
theorem dk_16 {c : ByteArray} {pc : Nat} {v : Int} (h : dk2s c pc 16 v = true) : decode c pc = .ok (.bipush v, 2) := dk2s_of (f := fun x => .bipush x) (K := _) rfl rfl h
set_option maxRecDepth 20000 in
theorem dk_19 {c : ByteArray} {pc n : Nat} (h : dk3 c pc 19 n = true) : decode c pc = .ok (.ldc_w n, 3) := dk3_of (f := fun x => .ldc_w x) (K := _) rfl rfl h
set_option maxRecDepth 20000 in
theorem dk_20 {c : ByteArray} {pc n : Nat} (h : dk3 c pc 20 n = true) : decode c pc = .ok (.ldc2_w n, 3) := dk3_of (f := fun x => .ldc2_w x) (K := _) rfl rfl h
set_option maxRecDepth 20000 in
theorem dk_178 {c : ByteArray} {pc n : Nat} (h : dk3 c pc 178 n = true) : decode c pc = .ok (.getstatic n, 3) := dk3_of (f := fun x => .getstatic x) (K := _) rfl rfl h
set_option maxRecDepth 20000 in
theorem dk_179 {c : ByteArray} {pc n : Nat} (h : dk3 c pc 179 n = true) : decode c pc = .ok (.putstatic n, 3) := dk3_of (f := fun x => .putstatic x) (K := _) rfl rfl h
set_option maxRecDepth 20000 in
theorem dk_180 {c : ByteArray} {pc n : Nat} (h : dk3 c pc 180 n = true) : decode c pc = .ok (.getfield n, 3) := dk3_of (f := fun x => .getfield x) (K := _) rfl rfl h
set_option maxRecDepth 20000 in
theorem dk_181 {c : ByteArray} {pc n : Nat} (h : dk3 c pc 181 n = true) : decode c pc = .ok (.putfield n, 3) := dk3_of (f := fun x => .putfield x) (K := _) rfl rfl h
set_option maxRecDepth 20000 in
theorem dk_182 {c : ByteArray} {pc n : Nat} (h : dk3 c pc 182 n = true) : decode c pc = .ok (.invokevirtual n, 3) := dk3_of (f := fun x => .invokevirtual x) (K := _) rfl rfl h
set_option maxRecDepth 20000 in
theorem dk_183 {c : ByteArray} {pc n : Nat} (h : dk3 c pc 183 n = true) : decode c pc = .ok (.invokespecial n, 3) := dk3_of (f := fun x => .invokespecial x) (K := _) rfl rfl h
set_option maxRecDepth 20000 in
theorem dk_184 {c : ByteArray} {pc n : Nat} (h : dk3 c pc 184 n = true) : decode c pc = .ok (.invokestatic n, 3) := dk3_of (f := fun x => .invokestatic x) (K := _) rfl rfl h
set_option maxRecDepth 20000 in
theorem dk_187 {c : ByteArray} {pc n : Nat} (h : dk3 c pc 187 n = true) : decode c pc = .ok (.new n, 3) := dk3_of (f := fun x => .new x) (K := _) rfl rfl h
set_option maxRecDepth 20000 in
theorem dk_189 {c : ByteArray} {pc n : Nat} (h : dk3 c pc 189 n = true) : decode c pc = .ok (.anewarray n, 3) := dk3_of (f := fun x => .anewarray x) (K := _) rfl rfl h
set_option maxRecDepth 20000 in
theorem dk_192 {c : ByteArray} {pc n : Nat} (h : dk3 c pc 192 n = true) : decode c pc = .ok (.checkcast n, 3) := dk3_of (f := fun x => .checkcast x) (K := _) rfl rfl h
set_option maxRecDepth 20000 in
theorem dk_193 {c : ByteArray} {pc n : Nat} (h : dk3 c pc 193 n = true) : decode c pc = .ok (.instanceof n, 3) := dk3_of (f := fun x => .instanceof x) (K := _) rfl rfl h
set_option maxRecDepth 20000 in
theorem dk_17 {c : ByteArray} {pc : Nat} {v : Int} (h : dk3s c pc 17 v = true) : decode c pc = .ok (.sipush v, 3) := dk3s_of (f := fun x => .sipush x) (K := _) rfl rfl h
set_option maxRecDepth 20000 in
theorem dk_167 {c : ByteArray} {pc : Nat} {v : Int} (h : dk3s c pc 167 v = true) : decode c pc = .ok (.goto v, 3) := dk3s_of (f := fun x => .goto x) (K := _) rfl rfl h
set_option maxRecDepth 20000 in
theorem dk_198 {c : ByteArray} {pc : Nat} {v : Int} (h : dk3s c pc 198 v = true) : decode c pc = .ok (.ifnull v, 3) := dk3s_of (f := fun x => .ifnull x) (K := _) rfl rfl h
set_option maxRecDepth 20000 in
theorem dk_199 {c : ByteArray} {pc : Nat} {v : Int} (h : dk3s c pc 199 v = true) : decode c pc = .ok (.ifnonnull v, 3) := dk3s_of (f := fun x => .ifnonnull x) (K := _) rfl rfl h
set_option maxRecDepth 20000 in
theorem dk_153 {c : ByteArray} {pc : Nat} {v : Int} (h : dk3s c pc 153 v = true) : decode c pc = .ok (.ifCond .eq v, 3) := dk3s_of (f := fun x => .ifCond .eq x) (K := _) rfl rfl h
set_option maxRecDepth 20000 in
theorem dk_159 {c : ByteArray} {pc : Nat} {v : Int} (h : dk3s c pc 159 v = true) : decode c pc = .ok (.if_icmp .eq v, 3) := dk3s_of (f := fun x => .if_icmp .eq x) (K := _) rfl rfl h
set_option maxRecDepth 20000 in
theorem dk_154 {c : ByteArray} {pc : Nat} {v : Int} (h : dk3s c pc 154 v = true) : decode c pc = .ok (.ifCond .ne v, 3) := dk3s_of (f := fun x => .ifCond .ne x) (K := _) rfl rfl h
set_option maxRecDepth 20000 in
theorem dk_160 {c : ByteArray} {pc : Nat} {v : Int} (h : dk3s c pc 160 v = true) : decode c pc = .ok (.if_icmp .ne v, 3) := dk3s_of (f := fun x => .if_icmp .ne x) (K := _) rfl rfl h
set_option maxRecDepth 20000 in
theorem dk_155 {c : ByteArray} {pc : Nat} {v : Int} (h : dk3s c pc 155 v = true) : decode c pc = .ok (.ifCond .lt v, 3) := dk3s_of (f := fun x => .ifCond .lt x) (K := _) rfl rfl h
set_option maxRecDepth 20000 in
theorem dk_161 {c : ByteArray} {pc : Nat} {v : Int} (h : dk3s c pc 161 v = true) : decode c pc = .ok (.if_icmp .lt v, 3) := dk3s_of (f := fun x => .if_icmp .lt x) (K := _) rfl rfl h
set_option maxRecDepth 20000 in
theorem dk_156 {c : ByteArray} {pc : Nat} {v : Int} (h : dk3s c pc 156 v = true) : decode c pc = .ok (.ifCond .ge v, 3) := dk3s_of (f := fun x => .ifCond .ge x) (K := _) rfl rfl h
set_option maxRecDepth 20000 in
theorem dk_162 {c : ByteArray} {pc : Nat} {v : Int} (h : dk3s c pc 162 v = true) : decode c pc = .ok (.if_icmp .ge v, 3) := dk3s_of (f := fun x => .if_icmp .ge x) (K := _) rfl rfl h
set_option maxRecDepth 20000 in
theorem dk_157 {c : ByteArray} {pc : Nat} {v : Int} (h : dk3s c pc 157 v = true) : decode c pc = .ok (.ifCond .gt v, 3) := dk3s_of (f := fun x => .ifCond .gt x) (K := _) rfl rfl h
set_option maxRecDepth 20000 in
theorem dk_163 {c : ByteArray} {pc : Nat} {v : Int} (h : dk3s c pc 163 v = true) : decode c pc = .ok (.if_icmp .gt v, 3) := dk3s_of (f := fun x => .if_icmp .gt x) (K := _) rfl rfl h
set_option maxRecDepth 20000 in
theorem dk_158 {c : ByteArray} {pc : Nat} {v : Int} (h : dk3s c pc 158 v = true) : decode c pc = .ok (.ifCond .le v, 3) := dk3s_of (f := fun x => .ifCond .le x) (K := _) rfl rfl h
set_option maxRecDepth 20000 in
theorem dk_164 {c : ByteArray} {pc : Nat} {v : Int} (h : dk3s c pc 164 v = true) : decode c pc = .ok (.if_icmp .le v, 3) := dk3s_of (f := fun x => .if_icmp .le x) (K := _) rfl rfl h
set_option maxRecDepth 20000 in
theorem dk_165 {c : ByteArray} {pc : Nat} {v : Int} (h : dk3s c pc 165 v = true) : decode c pc = .ok (.if_acmp .eq v, 3) := dk3s_of (f := fun x => .if_acmp .eq x) (K := _) rfl rfl h
set_option maxRecDepth 20000 in
theorem dk_166 {c : ByteArray} {pc : Nat} {v : Int} (h : dk3s c pc 166 v = true) : decode c pc = .ok (.if_acmp .ne v, 3) := dk3s_of (f := fun x => .if_acmp .ne x) (K := _) rfl rfl h

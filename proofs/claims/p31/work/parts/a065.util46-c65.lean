section
/-- where a name or a sum stands, once it has begun -/
def LaK (k s : Nat) (f54 : Nat → Int32) (f la : Nat) : Prop := (k = 2 ∨ k = 3 ∨ k = 9) → 0 < s → f54 f = nI la
/-- all finished nodes are well formed -/
def VoK (F : Nat → Nat → Int32) (V : Nat → Prop) (wt dp pd : Nat → Nat) (se : Nat) : Prop := ∀ n, V n → n < 4000 ∧ ∃ k, F 29 n = nI k ∧ NdK F V wt dp pd se n k
/-- the frames below the uppermost one, f of them (n, h: node and pile of the frame above them; R: the turns that they have left) -/
def BelO (F : Nat → Nat → Int32) (V : Nat → Prop) (wt dp pd : Nat → Nat) (f52 f53 f54 : Nat → Int32) (D h0 n0 : Nat) : Nat → Nat → Nat → Nat → Prop
  | 0, n, h, R => n = n0 ∧ h = h0 ∧ R = 0
  | f + 1, n, h, R => ∃ n' k' s' la' h' r' R', (V n' ∧ F 29 n' = nI k' ∧ k' ≤ 13) ∧ (f52 f = nI n' ∧ f53 f = nI s' ∧ (k' = 2 ∨ k' = 3 ∨ k' = 9 → f54 f = nI la')) ∧ (h' + pd n' ≤ 80 ∧ f + dp n' ≤ D) ∧ WtO F V wt dp pd n' k' s' la' h' h r' ((F 29 n).toInt ≤ 9) ∧ BelO F V wt dp pd f52 f53 f54 D h0 n0 f n' h' R' ∧ R = 2 * r' + 1 + R'
theorem BelO.congr {F : Nat → Nat → Int32} {V : Nat → Prop} {wt dp pd : Nat → Nat} {f52 f53 f54 g52 g53 g54 : Nat → Int32} {D h0 n0 : Nat} : ∀ (f n h R : Nat), (∀ q, q < f → g52 q = f52 q ∧ g53 q = f53 q ∧ g54 q = f54 q) → BelO F V wt dp pd f52 f53 f54 D h0 n0 f n h R → BelO F V wt dp pd g52 g53 g54 D h0 n0 f n h R
  | 0, _, _, _, _, h => h
  | f + 1, n, h, R, e, b => by
    obtain ⟨n', k', s', la', h', r', R', a1, ⟨a2, a3, a4⟩, a5, a6, a7, a8⟩ := b
    obtain ⟨e1, e2, e3⟩ := e f (Nat.lt_succ_self f)
    exact ⟨n', k', s', la', h', r', R', a1, ⟨e1.trans a2, e2.trans a3, fun q => e3.trans (a4 q)⟩, a5, a6, BelO.congr f n' h' R' (fun q hq => e q (by omega)) a7, a8⟩
/-- the worker's frames: none is left and the value lies on the pile, or the uppermost one has its turn -/
def FrsO (F : Nat → Nat → Int32) (V : Nat → Prop) (wt dp pd : Nat → Nat) (f52 f53 f54 : Nat → Int32) (D h0 n0 fr p mQ : Nat) : Prop :=
  (fr = 0 ∧ ((p = h0 + 1 ∧ (F 29 n0).toInt ≤ 9) ∨ (p = h0 ∧ ¬ (F 29 n0).toInt ≤ 9))) ∨
  ∃ f n k s la h r R, fr = f + 1 ∧ (V n ∧ F 29 n = nI k ∧ k ≤ 13) ∧ (f52 f = nI n ∧ f53 f = nI s ∧ LaK k s f54 f la) ∧ TopO F V wt dp pd n k s la h p r ∧ BelO F V wt dp pd f52 f53 f54 D h0 n0 f n h R ∧ (f + dp n ≤ D ∧ h + pd n ≤ 80) ∧ 2 * r + 1 + R ≤ mQ
theorem WtO.lin {F : Nat → Nat → Int32} {V : Nat → Prop} {wt dp pd : Nat → Nat} {n k s la h hn r : Nat} {p q : Prop} (h1 : WtO F V wt dp pd n k s la h hn r p) (e : p ↔ q) : WtO F V wt dp pd n k s la h hn r q := (propext e) ▸ h1
theorem StpO.fr {F : Nat → Nat → Int32} {V : Nat → Prop} {wt dp pd : Nat → Nat} {n k f h r fr2 p2 : Nat} {f52 f53 f54 g52 g53 g54 : Nat → Int32} (h : StpO F V wt dp pd n k f h r f52 f53 f54 g52 g53 g54 fr2 p2) : fr2 ≤ f + 2 := by
  rcases h.2 with h9 | h9 | h9
  · have := h9.1; omega
  · have := h9.1; omega
  · have := h9.1; omega
theorem FrsO.step {F : Nat → Nat → Int32} {V : Nat → Prop} {wt dp pd : Nat → Nat} {se n k f h r R D h0 n0 fr2 p2 mQ : Nat} {f52 f53 f54 g52 g53 g54 : Nat → Int32} (hV : VoK F V wt dp pd se) (hVn : V n) (hk : F 29 n = nI k) (hk13 : k ≤ 13) (h52 : f52 f = nI n) (hB : BelO F V wt dp pd f52 f53 f54 D h0 n0 f n h R) (hD : f + dp n ≤ D) (h80 : h + pd n ≤ 80) (hm : 2 * r + 1 + R ≤ mQ) (hS : StpO F V wt dp pd n k f h r f52 f53 f54 g52 g53 g54 fr2 p2) : FrsO F V wt dp pd g52 g53 g54 D h0 n0 fr2 p2 (mQ - 1) := by
  obtain ⟨hE, hS⟩ := hS
  have hkT : (F 29 n).toInt = k := by rw [hk]; exact nI_toInt (by omega)
  rcases hS with ⟨a1, a2⟩ | ⟨a1, a2, c, s', la', r', b1, b2, b3, b4, b5, b6, b7, b8, b9⟩ | ⟨a1, a2, s', la', r', b1, b2, b3, b4⟩
  · match f, hB, hE with
    | 0, hB, _ =>
      obtain ⟨rfl, rfl, _⟩ := hB
      refine Or.inl ⟨a1, ?_⟩
      by_cases h9 : k ≤ 9
      · exact Or.inl ⟨by rw [if_pos h9] at a2; exact a2, by omega⟩
      · exact Or.inr ⟨by rw [if_neg h9] at a2; exact a2, by omega⟩
    | f + 1, hB, hE =>
      obtain ⟨n', k', s', la', h', r', R', c1, ⟨c2, c3, c4⟩, c5, c6, c7, c8⟩ := hB
      obtain ⟨e1, e2, e3⟩ := hE f (Nat.lt_succ_self f)
      refine Or.inr ⟨f, n', k', s', la', h', r', R', a1, c1, ⟨e1.trans c2, e2.trans c3, fun q _ => e3.trans (c4 q)⟩, ?_, BelO.congr f n' h' R' (fun q hq => hE q (by omega)) c7, c5.symm, by omega⟩
      by_cases h9 : k ≤ 9
      · rw [if_pos h9] at a2
        exact Or.inr (Or.inr (Or.inl ⟨h, c6.lin ⟨fun _ => trivial, fun _ => by omega⟩, a2⟩))
      · rw [if_neg h9] at a2
        have a3 : p2 = h := a2
        subst a3
        exact Or.inr (Or.inr (Or.inr (c6.lin ⟨fun q => by omega, fun q => q.elim⟩)))
  · obtain ⟨_, k9, d1, d2⟩ := hV c b5
    exact Or.inr ⟨f + 1, c, k9, 0, 0, p2, wt c, 2 * r' + 1 + R, a1, ⟨b5, d1, d2.k13⟩, ⟨b1, b2.trans nI_0.symm, fun _ q => absurd q (by omega)⟩, Or.inl ⟨rfl, rfl, Nat.le_refl _⟩,
      ⟨n, k, s', la', h, r', R, ⟨hVn, hk, hk13⟩, ⟨a2.trans h52, b3, b4⟩, ⟨h80, hD⟩, b8, BelO.congr f n h R hE hB, rfl⟩, ⟨by omega, by omega⟩, by omega⟩
  · exact Or.inr ⟨f, n, k, s', la', h, r', R, a1, ⟨hVn, hk, hk13⟩, ⟨a2.trans h52, b1, fun q _ => b2 q⟩, b3, BelO.congr f n h R hE hB, ⟨hD, h80⟩, by omega⟩
/-- one call stands, and nothing below it -/
theorem FrsO.first {F : Nat → Nat → Int32} {V : Nat → Prop} {wt dp pd : Nat → Nat} {se D h0 n0 : Nat} {f52 f53 f54 : Nat → Int32} (hV : VoK F V wt dp pd se) (hn : V n0) (h52 : f52 0 = nI n0) (h53 : f53 0 = 0) (hD : dp n0 ≤ D) (h80 : h0 + pd n0 ≤ 80) : FrsO F V wt dp pd f52 f53 f54 D h0 n0 1 h0 (2 * wt n0 + 1) := by
  obtain ⟨_, k9, d1, d2⟩ := hV n0 hn
  exact Or.inr ⟨0, n0, k9, 0, 0, h0, wt n0, 0, rfl, ⟨hn, d1, d2.k13⟩, ⟨h52, h53.trans nI_0.symm, fun _ q => absurd q (by omega)⟩, Or.inl ⟨rfl, rfl, Nat.le_refl _⟩, ⟨rfl, rfl, rfl⟩, ⟨by omega, h80⟩, by omega⟩
theorem FrsO.top {F : Nat → Nat → Int32} {V : Nat → Prop} {wt dp pd : Nat → Nat} {f52 f53 f54 : Nat → Int32} {D h0 n0 fr p mQ : Nat} (h : FrsO F V wt dp pd f52 f53 f54 D h0 n0 fr p mQ) (hf : 0 < fr) :
  ∃ f n k s la h r R, fr = f + 1 ∧ (V n ∧ F 29 n = nI k ∧ k ≤ 13) ∧ (f52 f = nI n ∧ f53 f = nI s ∧ LaK k s f54 f la) ∧ TopO F V wt dp pd n k s la h p r ∧ BelO F V wt dp pd f52 f53 f54 D h0 n0 f n h R ∧ (f + dp n ≤ D ∧ h + pd n ≤ 80) ∧ 2 * r + 1 + R ≤ mQ :=
  h.resolve_left (fun q => absurd q.1 (by omega))
theorem FrsO.done {F : Nat → Nat → Int32} {V : Nat → Prop} {wt dp pd : Nat → Nat} {f52 f53 f54 : Nat → Int32} {D h0 n0 fr p mQ : Nat} (h : FrsO F V wt dp pd f52 f53 f54 D h0 n0 fr p mQ) (hf : fr = 0) : (p = h0 + 1 ∧ (F 29 n0).toInt ≤ 9) ∨ (p = h0 ∧ ¬ (F 29 n0).toInt ≤ 9) :=
  (h.resolve_right (fun ⟨_, _, _, _, _, _, _, _, q, _⟩ => absurd q (by omega))).2
theorem nIinj {a b : Nat} (ha : a < 4000) (hb : b < 4000) (h : nI a = nI b) : a = b := kidE ⟨rfl, ha⟩ ⟨h, hb⟩
end
section
theorem hd_yX12_workName_RX12 : yX12_workName.cls = RX12 ∧ yX12_workName.cls ≠ "java/lang/invoke/MethodHandle" ∧ yX12_workName.cls ≠ "java/lang/invoke/VarHandle" ∧ (parseMethodDescriptor yX12_workName.desc).map (fun d => d.parameters.length) = some 2 := by decide +kernel
theorem hd_yX12_workPair_RX12 : yX12_workPair.cls = RX12 ∧ yX12_workPair.cls ≠ "java/lang/invoke/MethodHandle" ∧ yX12_workPair.cls ≠ "java/lang/invoke/VarHandle" ∧ (parseMethodDescriptor yX12_workPair.desc).map (fun d => d.parameters.length) = some 2 := by decide +kernel
theorem hd_yX12_workSum_RX12 : yX12_workSum.cls = RX12 ∧ yX12_workSum.cls ≠ "java/lang/invoke/MethodHandle" ∧ yX12_workSum.cls ≠ "java/lang/invoke/VarHandle" ∧ (parseMethodDescriptor yX12_workSum.desc).map (fun d => d.parameters.length) = some 2 := by decide +kernel
theorem hd_yX12_workJoined_RX12 : yX12_workJoined.cls = RX12 ∧ yX12_workJoined.cls ≠ "java/lang/invoke/MethodHandle" ∧ yX12_workJoined.cls ≠ "java/lang/invoke/VarHandle" ∧ (parseMethodDescriptor yX12_workJoined.desc).map (fun d => d.parameters.length) = some 2 := by decide +kernel
theorem hd_yX12_workCompare_RX12 : yX12_workCompare.cls = RX12 ∧ yX12_workCompare.cls ≠ "java/lang/invoke/MethodHandle" ∧ yX12_workCompare.cls ≠ "java/lang/invoke/VarHandle" ∧ (parseMethodDescriptor yX12_workCompare.desc).map (fun d => d.parameters.length) = some 2 := by decide +kernel
theorem dX12_workFrame_0 : decode cX12_workFrame 0 = .ok (.aload_n 0, 1) := dk_42 (by decide +kernel)
theorem dX12_workFrame_1 : decode cX12_workFrame 1 = .ok (.getfield 179, 3) := dk_180 (by decide +kernel)
theorem dX12_workFrame_4 : decode cX12_workFrame 4 = .ok (.iload_n 1, 1) := dk_27 (by decide +kernel)
theorem dX12_workFrame_5 : decode cX12_workFrame 5 = .ok (.iaload, 1) := dk_46 (by decide +kernel)
theorem dX12_workFrame_6 : decode cX12_workFrame 6 = .ok (.istore_n 2, 1) := dk_61 (by decide +kernel)
theorem dX12_workFrame_7 : decode cX12_workFrame 7 = .ok (.aload_n 0, 1) := dk_42 (by decide +kernel)
theorem dX12_workFrame_8 : decode cX12_workFrame 8 = .ok (.getfield 110, 3) := dk_180 (by decide +kernel)
theorem dX12_workFrame_11 : decode cX12_workFrame 11 = .ok (.iload_n 2, 1) := dk_28 (by decide +kernel)
theorem dX12_workFrame_12 : decode cX12_workFrame 12 = .ok (.iaload, 1) := dk_46 (by decide +kernel)
theorem dX12_workFrame_13 : decode cX12_workFrame 13 = .ok (.tableswitch 338 0 13 #[71, 71, 147, 147, 156, 338, 338, 338, 338, 249, 258, 258, 267, 329], 71) := by decide +kernel
theorem dX12_workFrame_84 : decode cX12_workFrame 84 = .ok (.aload_n 0, 1) := dk_42 (by decide +kernel)
theorem dX12_workFrame_85 : decode cX12_workFrame 85 = .ok (.invokevirtual 656, 3) := dk_182 (by decide +kernel)
theorem dX12_workFrame_88 : decode cX12_workFrame 88 = .ok (.aload_n 0, 1) := dk_42 (by decide +kernel)
theorem dX12_workFrame_89 : decode cX12_workFrame 89 = .ok (.aload_n 0, 1) := dk_42 (by decide +kernel)
theorem dX12_workFrame_90 : decode cX12_workFrame 90 = .ok (.getfield 659, 3) := dk_180 (by decide +kernel)
theorem dX12_workFrame_93 : decode cX12_workFrame 93 = .ok (.invokevirtual 662, 3) := dk_182 (by decide +kernel)
theorem dX12_workFrame_96 : decode cX12_workFrame 96 = .ok (.aload_n 0, 1) := dk_42 (by decide +kernel)
theorem dX12_workFrame_97 : decode cX12_workFrame 97 = .ok (.getfield 170, 3) := dk_180 (by decide +kernel)
theorem dX12_workFrame_100 : decode cX12_workFrame 100 = .ok (.bipush 9, 2) := dk_16 (by decide +kernel)
theorem dX12_workFrame_102 : decode cX12_workFrame 102 = .ok (.aload_n 0, 1) := dk_42 (by decide +kernel)
theorem dX12_workFrame_103 : decode cX12_workFrame 103 = .ok (.getfield 659, 3) := dk_180 (by decide +kernel)
theorem dX12_workFrame_106 : decode cX12_workFrame 106 = .ok (.imul, 1) := dk_104 (by decide +kernel)
theorem dX12_workFrame_107 : decode cX12_workFrame 107 = .ok (.aload_n 0, 1) := dk_42 (by decide +kernel)
theorem dX12_workFrame_108 : decode cX12_workFrame 108 = .ok (.getfield 110, 3) := dk_180 (by decide +kernel)
theorem dX12_workFrame_111 : decode cX12_workFrame 111 = .ok (.iload_n 2, 1) := dk_28 (by decide +kernel)
theorem dX12_workFrame_112 : decode cX12_workFrame 112 = .ok (.iaload, 1) := dk_46 (by decide +kernel)
theorem dX12_workFrame_113 : decode cX12_workFrame 113 = .ok (.ifCond .ne 12, 3) := dk_154 (by decide +kernel)
theorem dX12_workFrame_116 : decode cX12_workFrame 116 = .ok (.aload_n 0, 1) := dk_42 (by decide +kernel)
theorem dX12_workFrame_117 : decode cX12_workFrame 117 = .ok (.getfield 113, 3) := dk_180 (by decide +kernel)
theorem dX12_workFrame_120 : decode cX12_workFrame 120 = .ok (.iload_n 2, 1) := dk_28 (by decide +kernel)
theorem dX12_workFrame_121 : decode cX12_workFrame 121 = .ok (.iaload, 1) := dk_46 (by decide +kernel)
theorem dX12_workFrame_122 : decode cX12_workFrame 122 = .ok (.goto 14, 3) := dk_167 (by decide +kernel)
theorem dX12_workFrame_125 : decode cX12_workFrame 125 = .ok (.aload_n 0, 1) := dk_42 (by decide +kernel)
theorem dX12_workFrame_126 : decode cX12_workFrame 126 = .ok (.getfield 176, 3) := dk_180 (by decide +kernel)
theorem dX12_workFrame_129 : decode cX12_workFrame 129 = .ok (.aload_n 0, 1) := dk_42 (by decide +kernel)
theorem dX12_workFrame_130 : decode cX12_workFrame 130 = .ok (.getfield 113, 3) := dk_180 (by decide +kernel)
theorem dX12_workFrame_133 : decode cX12_workFrame 133 = .ok (.iload_n 2, 1) := dk_28 (by decide +kernel)
theorem dX12_workFrame_134 : decode cX12_workFrame 134 = .ok (.iaload, 1) := dk_46 (by decide +kernel)
theorem dX12_workFrame_135 : decode cX12_workFrame 135 = .ok (.iaload, 1) := dk_46 (by decide +kernel)
theorem dX12_workFrame_136 : decode cX12_workFrame 136 = .ok (.iastore, 1) := dk_79 (by decide +kernel)
theorem dX12_workFrame_137 : decode cX12_workFrame 137 = .ok (.aload_n 0, 1) := dk_42 (by decide +kernel)
theorem dX12_workFrame_138 : decode cX12_workFrame 138 = .ok (.dup, 1) := dk_89 (by decide +kernel)
theorem dX12_workFrame_139 : decode cX12_workFrame 139 = .ok (.getfield 659, 3) := dk_180 (by decide +kernel)
theorem dX12_workFrame_142 : decode cX12_workFrame 142 = .ok (.iconst 1, 1) := dk_4 (by decide +kernel)
theorem dX12_workFrame_143 : decode cX12_workFrame 143 = .ok (.iadd, 1) := dk_96 (by decide +kernel)
theorem dX12_workFrame_144 : decode cX12_workFrame 144 = .ok (.putfield 659, 3) := dk_181 (by decide +kernel)
theorem dX12_workFrame_147 : decode cX12_workFrame 147 = .ok (.aload_n 0, 1) := dk_42 (by decide +kernel)
theorem dX12_workFrame_148 : decode cX12_workFrame 148 = .ok (.dup, 1) := dk_89 (by decide +kernel)
theorem dX12_workFrame_149 : decode cX12_workFrame 149 = .ok (.getfield 647, 3) := dk_180 (by decide +kernel)
theorem dX12_workFrame_152 : decode cX12_workFrame 152 = .ok (.iconst 1, 1) := dk_4 (by decide +kernel)
theorem dX12_workFrame_153 : decode cX12_workFrame 153 = .ok (.isub, 1) := dk_100 (by decide +kernel)
theorem dX12_workFrame_154 : decode cX12_workFrame 154 = .ok (.putfield 647, 3) := dk_181 (by decide +kernel)
theorem dX12_workFrame_157 : decode cX12_workFrame 157 = .ok (.goto 200, 3) := dk_167 (by decide +kernel)
theorem dX12_workFrame_160 : decode cX12_workFrame 160 = .ok (.aload_n 0, 1) := dk_42 (by decide +kernel)
theorem dX12_workFrame_161 : decode cX12_workFrame 161 = .ok (.iload_n 1, 1) := dk_27 (by decide +kernel)
theorem dX12_workFrame_162 : decode cX12_workFrame 162 = .ok (.iload_n 2, 1) := dk_28 (by decide +kernel)
theorem dX12_workFrame_163 : decode cX12_workFrame 163 = .ok (.invokevirtual 665, 3) := dk_182 (by decide +kernel)
theorem dX12_workFrame_166 : decode cX12_workFrame 166 = .ok (.goto 191, 3) := dk_167 (by decide +kernel)
theorem dX12_workFrame_169 : decode cX12_workFrame 169 = .ok (.aload_n 0, 1) := dk_42 (by decide +kernel)
theorem dX12_workFrame_170 : decode cX12_workFrame 170 = .ok (.getfield 182, 3) := dk_180 (by decide +kernel)
theorem dX12_workFrame_173 : decode cX12_workFrame 173 = .ok (.iload_n 1, 1) := dk_27 (by decide +kernel)
theorem dX12_workFrame_174 : decode cX12_workFrame 174 = .ok (.iaload, 1) := dk_46 (by decide +kernel)
theorem dX12_workFrame_175 : decode cX12_workFrame 175 = .ok (.ifCond .ne 27, 3) := dk_154 (by decide +kernel)
theorem dX12_workFrame_178 : decode cX12_workFrame 178 = .ok (.aload_n 0, 1) := dk_42 (by decide +kernel)
theorem dX12_workFrame_179 : decode cX12_workFrame 179 = .ok (.invokevirtual 656, 3) := dk_182 (by decide +kernel)
theorem dX12_workFrame_182 : decode cX12_workFrame 182 = .ok (.aload_n 0, 1) := dk_42 (by decide +kernel)
theorem dX12_workFrame_183 : decode cX12_workFrame 183 = .ok (.getfield 182, 3) := dk_180 (by decide +kernel)
theorem dX12_workFrame_186 : decode cX12_workFrame 186 = .ok (.iload_n 1, 1) := dk_27 (by decide +kernel)
theorem dX12_workFrame_187 : decode cX12_workFrame 187 = .ok (.iconst 1, 1) := dk_4 (by decide +kernel)
theorem dX12_workFrame_188 : decode cX12_workFrame 188 = .ok (.iastore, 1) := dk_79 (by decide +kernel)
theorem dX12_workFrame_189 : decode cX12_workFrame 189 = .ok (.aload_n 0, 1) := dk_42 (by decide +kernel)
theorem dX12_workFrame_190 : decode cX12_workFrame 190 = .ok (.aload_n 0, 1) := dk_42 (by decide +kernel)
theorem dX12_workFrame_191 : decode cX12_workFrame 191 = .ok (.getfield 113, 3) := dk_180 (by decide +kernel)
theorem dX12_workFrame_194 : decode cX12_workFrame 194 = .ok (.iload_n 2, 1) := dk_28 (by decide +kernel)
theorem dX12_workFrame_195 : decode cX12_workFrame 195 = .ok (.iaload, 1) := dk_46 (by decide +kernel)
theorem dX12_workFrame_196 : decode cX12_workFrame 196 = .ok (.invokevirtual 650, 3) := dk_182 (by decide +kernel)
theorem dX12_workFrame_199 : decode cX12_workFrame 199 = .ok (.goto 158, 3) := dk_167 (by decide +kernel)
theorem dX12_workFrame_202 : decode cX12_workFrame 202 = .ok (.iconst 0, 1) := dk_3 (by decide +kernel)
theorem dX12_workFrame_203 : decode cX12_workFrame 203 = .ok (.istore_n 3, 1) := dk_62 (by decide +kernel)
theorem dX12_workFrame_204 : decode cX12_workFrame 204 = .ok (.iload_n 3, 1) := dk_29 (by decide +kernel)
theorem dX12_workFrame_205 : decode cX12_workFrame 205 = .ok (.bipush 9, 2) := dk_16 (by decide +kernel)
theorem dX12_workFrame_207 : decode cX12_workFrame 207 = .ok (.if_icmp .ge 42, 3) := dk_162 (by decide +kernel)
theorem dX12_workFrame_210 : decode cX12_workFrame 210 = .ok (.aload_n 0, 1) := dk_42 (by decide +kernel)
theorem dX12_workFrame_211 : decode cX12_workFrame 211 = .ok (.getfield 170, 3) := dk_180 (by decide +kernel)
theorem dX12_workFrame_214 : decode cX12_workFrame 214 = .ok (.bipush 9, 2) := dk_16 (by decide +kernel)
theorem dX12_workFrame_216 : decode cX12_workFrame 216 = .ok (.aload_n 0, 1) := dk_42 (by decide +kernel)
theorem dX12_workFrame_217 : decode cX12_workFrame 217 = .ok (.getfield 659, 3) := dk_180 (by decide +kernel)
theorem dX12_workFrame_220 : decode cX12_workFrame 220 = .ok (.iconst 1, 1) := dk_4 (by decide +kernel)
theorem dX12_workFrame_221 : decode cX12_workFrame 221 = .ok (.isub, 1) := dk_100 (by decide +kernel)
theorem dX12_workFrame_222 : decode cX12_workFrame 222 = .ok (.imul, 1) := dk_104 (by decide +kernel)
theorem dX12_workFrame_223 : decode cX12_workFrame 223 = .ok (.iload_n 3, 1) := dk_29 (by decide +kernel)
theorem dX12_workFrame_224 : decode cX12_workFrame 224 = .ok (.iadd, 1) := dk_96 (by decide +kernel)
theorem dX12_workFrame_225 : decode cX12_workFrame 225 = .ok (.aload_n 0, 1) := dk_42 (by decide +kernel)
theorem dX12_workFrame_226 : decode cX12_workFrame 226 = .ok (.getfield 170, 3) := dk_180 (by decide +kernel)
theorem dX12_workFrame_229 : decode cX12_workFrame 229 = .ok (.bipush 9, 2) := dk_16 (by decide +kernel)
theorem dX12_workFrame_231 : decode cX12_workFrame 231 = .ok (.aload_n 0, 1) := dk_42 (by decide +kernel)
theorem dX12_workFrame_232 : decode cX12_workFrame 232 = .ok (.getfield 659, 3) := dk_180 (by decide +kernel)
theorem dX12_workFrame_235 : decode cX12_workFrame 235 = .ok (.iconst 1, 1) := dk_4 (by decide +kernel)
theorem dX12_workFrame_236 : decode cX12_workFrame 236 = .ok (.isub, 1) := dk_100 (by decide +kernel)
theorem dX12_workFrame_237 : decode cX12_workFrame 237 = .ok (.imul, 1) := dk_104 (by decide +kernel)
theorem dX12_workFrame_238 : decode cX12_workFrame 238 = .ok (.iload_n 3, 1) := dk_29 (by decide +kernel)
theorem dX12_workFrame_239 : decode cX12_workFrame 239 = .ok (.iadd, 1) := dk_96 (by decide +kernel)
theorem dX12_workFrame_240 : decode cX12_workFrame 240 = .ok (.iaload, 1) := dk_46 (by decide +kernel)
theorem dX12_workFrame_241 : decode cX12_workFrame 241 = .ok (.ineg, 1) := dk_116 (by decide +kernel)
theorem dX12_workFrame_242 : decode cX12_workFrame 242 = .ok (.iastore, 1) := dk_79 (by decide +kernel)
theorem dX12_workFrame_243 : decode cX12_workFrame 243 = .ok (.iinc 3 1, 3) := dk_132 (by decide +kernel)
theorem dX12_workFrame_246 : decode cX12_workFrame 246 = .ok (.goto (-42), 3) := dk_167 (by decide +kernel)
theorem dX12_workFrame_249 : decode cX12_workFrame 249 = .ok (.aload_n 0, 1) := dk_42 (by decide +kernel)
theorem dX12_workFrame_250 : decode cX12_workFrame 250 = .ok (.dup, 1) := dk_89 (by decide +kernel)
theorem dX12_workFrame_251 : decode cX12_workFrame 251 = .ok (.getfield 647, 3) := dk_180 (by decide +kernel)
theorem dX12_workFrame_254 : decode cX12_workFrame 254 = .ok (.iconst 1, 1) := dk_4 (by decide +kernel)
theorem dX12_workFrame_255 : decode cX12_workFrame 255 = .ok (.isub, 1) := dk_100 (by decide +kernel)
theorem dX12_workFrame_256 : decode cX12_workFrame 256 = .ok (.putfield 647, 3) := dk_181 (by decide +kernel)
theorem dX12_workFrame_259 : decode cX12_workFrame 259 = .ok (.goto 98, 3) := dk_167 (by decide +kernel)
theorem dX12_workFrame_262 : decode cX12_workFrame 262 = .ok (.aload_n 0, 1) := dk_42 (by decide +kernel)
theorem dX12_workFrame_263 : decode cX12_workFrame 263 = .ok (.iload_n 1, 1) := dk_27 (by decide +kernel)
theorem dX12_workFrame_264 : decode cX12_workFrame 264 = .ok (.iload_n 2, 1) := dk_28 (by decide +kernel)
theorem dX12_workFrame_265 : decode cX12_workFrame 265 = .ok (.invokevirtual 668, 3) := dk_182 (by decide +kernel)
theorem dX12_workFrame_268 : decode cX12_workFrame 268 = .ok (.goto 89, 3) := dk_167 (by decide +kernel)
theorem dX12_workFrame_271 : decode cX12_workFrame 271 = .ok (.aload_n 0, 1) := dk_42 (by decide +kernel)
theorem dX12_workFrame_272 : decode cX12_workFrame 272 = .ok (.iload_n 1, 1) := dk_27 (by decide +kernel)
theorem dX12_workFrame_273 : decode cX12_workFrame 273 = .ok (.iload_n 2, 1) := dk_28 (by decide +kernel)
theorem dX12_workFrame_274 : decode cX12_workFrame 274 = .ok (.invokevirtual 671, 3) := dk_182 (by decide +kernel)
theorem dX12_workFrame_277 : decode cX12_workFrame 277 = .ok (.goto 80, 3) := dk_167 (by decide +kernel)
theorem dX12_workFrame_280 : decode cX12_workFrame 280 = .ok (.aload_n 0, 1) := dk_42 (by decide +kernel)
theorem dX12_workFrame_281 : decode cX12_workFrame 281 = .ok (.getfield 182, 3) := dk_180 (by decide +kernel)
theorem dX12_workFrame_284 : decode cX12_workFrame 284 = .ok (.iload_n 1, 1) := dk_27 (by decide +kernel)
theorem dX12_workFrame_285 : decode cX12_workFrame 285 = .ok (.dup2, 1) := dk_92 (by decide +kernel)
theorem dX12_workFrame_286 : decode cX12_workFrame 286 = .ok (.iaload, 1) := dk_46 (by decide +kernel)
theorem dX12_workFrame_287 : decode cX12_workFrame 287 = .ok (.iconst 1, 1) := dk_4 (by decide +kernel)
theorem dX12_workFrame_288 : decode cX12_workFrame 288 = .ok (.iadd, 1) := dk_96 (by decide +kernel)
theorem dX12_workFrame_289 : decode cX12_workFrame 289 = .ok (.iastore, 1) := dk_79 (by decide +kernel)
theorem dX12_workFrame_290 : decode cX12_workFrame 290 = .ok (.aload_n 0, 1) := dk_42 (by decide +kernel)
theorem dX12_workFrame_291 : decode cX12_workFrame 291 = .ok (.getfield 182, 3) := dk_180 (by decide +kernel)
theorem dX12_workFrame_294 : decode cX12_workFrame 294 = .ok (.iload_n 1, 1) := dk_27 (by decide +kernel)
theorem dX12_workFrame_295 : decode cX12_workFrame 295 = .ok (.iaload, 1) := dk_46 (by decide +kernel)
theorem dX12_workFrame_296 : decode cX12_workFrame 296 = .ok (.iconst 1, 1) := dk_4 (by decide +kernel)
theorem dX12_workFrame_297 : decode cX12_workFrame 297 = .ok (.if_icmp .ne 16, 3) := dk_160 (by decide +kernel)
theorem dX12_workFrame_300 : decode cX12_workFrame 300 = .ok (.aload_n 0, 1) := dk_42 (by decide +kernel)
theorem dX12_workFrame_301 : decode cX12_workFrame 301 = .ok (.aload_n 0, 1) := dk_42 (by decide +kernel)
theorem dX12_workFrame_302 : decode cX12_workFrame 302 = .ok (.getfield 113, 3) := dk_180 (by decide +kernel)
theorem dX12_workFrame_305 : decode cX12_workFrame 305 = .ok (.iload_n 2, 1) := dk_28 (by decide +kernel)
theorem dX12_workFrame_306 : decode cX12_workFrame 306 = .ok (.iaload, 1) := dk_46 (by decide +kernel)
theorem dX12_workFrame_307 : decode cX12_workFrame 307 = .ok (.invokevirtual 650, 3) := dk_182 (by decide +kernel)
theorem dX12_workFrame_310 : decode cX12_workFrame 310 = .ok (.goto 47, 3) := dk_167 (by decide +kernel)
theorem dX12_workFrame_313 : decode cX12_workFrame 313 = .ok (.aload_n 0, 1) := dk_42 (by decide +kernel)
theorem dX12_workFrame_314 : decode cX12_workFrame 314 = .ok (.aload_n 0, 1) := dk_42 (by decide +kernel)
theorem dX12_workFrame_315 : decode cX12_workFrame 315 = .ok (.getfield 674, 3) := dk_180 (by decide +kernel)
theorem dX12_workFrame_318 : decode cX12_workFrame 318 = .ok (.ifCond .ne 7, 3) := dk_154 (by decide +kernel)
theorem dX12_workFrame_321 : decode cX12_workFrame 321 = .ok (.iconst 1, 1) := dk_4 (by decide +kernel)
theorem dX12_workFrame_322 : decode cX12_workFrame 322 = .ok (.goto 4, 3) := dk_167 (by decide +kernel)
theorem dX12_workFrame_325 : decode cX12_workFrame 325 = .ok (.iconst 0, 1) := dk_3 (by decide +kernel)
theorem dX12_workFrame_326 : decode cX12_workFrame 326 = .ok (.putfield 674, 3) := dk_181 (by decide +kernel)
theorem dX12_workFrame_329 : decode cX12_workFrame 329 = .ok (.aload_n 0, 1) := dk_42 (by decide +kernel)
theorem dX12_workFrame_330 : decode cX12_workFrame 330 = .ok (.dup, 1) := dk_89 (by decide +kernel)
theorem dX12_workFrame_331 : decode cX12_workFrame 331 = .ok (.getfield 647, 3) := dk_180 (by decide +kernel)
theorem dX12_workFrame_334 : decode cX12_workFrame 334 = .ok (.iconst 1, 1) := dk_4 (by decide +kernel)
theorem dX12_workFrame_335 : decode cX12_workFrame 335 = .ok (.isub, 1) := dk_100 (by decide +kernel)
theorem dX12_workFrame_336 : decode cX12_workFrame 336 = .ok (.putfield 647, 3) := dk_181 (by decide +kernel)
theorem dX12_workFrame_339 : decode cX12_workFrame 339 = .ok (.goto 18, 3) := dk_167 (by decide +kernel)
theorem dX12_workFrame_342 : decode cX12_workFrame 342 = .ok (.aload_n 0, 1) := dk_42 (by decide +kernel)
theorem dX12_workFrame_343 : decode cX12_workFrame 343 = .ok (.iload_n 1, 1) := dk_27 (by decide +kernel)
theorem dX12_workFrame_344 : decode cX12_workFrame 344 = .ok (.iload_n 2, 1) := dk_28 (by decide +kernel)
theorem dX12_workFrame_345 : decode cX12_workFrame 345 = .ok (.invokevirtual 677, 3) := dk_182 (by decide +kernel)
theorem dX12_workFrame_348 : decode cX12_workFrame 348 = .ok (.goto 9, 3) := dk_167 (by decide +kernel)
theorem dX12_workFrame_351 : decode cX12_workFrame 351 = .ok (.aload_n 0, 1) := dk_42 (by decide +kernel)
theorem dX12_workFrame_352 : decode cX12_workFrame 352 = .ok (.iload_n 1, 1) := dk_27 (by decide +kernel)
theorem dX12_workFrame_353 : decode cX12_workFrame 353 = .ok (.iload_n 2, 1) := dk_28 (by decide +kernel)
theorem dX12_workFrame_354 : decode cX12_workFrame 354 = .ok (.invokevirtual 680, 3) := dk_182 (by decide +kernel)
theorem dX12_workFrame_357 : decode cX12_workFrame 357 = .ok (.return_, 1) := dk_177 (by decide +kernel)
def wsRX12_workFrame : List Cond := .code yX12_workFrame cX12_workFrame 4 none :: ([.fieldLink RX12 179 "OptimaWorksModel" "frame" "[I", .fieldLink RX12 110 "OptimaWorksModel" "kind" "[I", .fieldLink RX12 659 "OptimaWorksModel" "piled" "I", .fieldLink RX12 170 "OptimaWorksModel" "top" "[I", .fieldLink RX12 113 "OptimaWorksModel" "partA" "[I", .fieldLink RX12 647 "OptimaWorksModel" "framed" "I", .fieldLink RX12 176 "OptimaWorksModel" "env" "[I", .fieldLink RX12 182 "OptimaWorksModel" "stage" "[I", .fieldLink RX12 674 "OptimaWorksModel" "truth" "Z"] ++ wsX120 ++ (wsV RX12 656 RX12 yX12_stepOne wsRX12_stepOne) ++ (wsV RX12 662 RX12 yX12_nought wsRX12_nought) ++ (wsV RX12 665 RX12 yX12_workName wsRX12_workName) ++ (wsV RX12 650 RX12 yX12_call wsRX12_call) ++ (wsV RX12 680 RX12 yX12_workPair wsRX12_workPair) ++ (wsV RX12 668 RX12 yX12_workSum wsRX12_workSum) ++ (wsV RX12 671 RX12 yX12_workJoined wsRX12_workJoined) ++ (wsV RX12 677 RX12 yX12_workCompare wsRX12_workCompare))
theorem iwsRX12_workFrame_in12 : ∀ w ∈ wsX120, w ∈ wsRX12_workFrame := fun _ h => List.mem_cons_of_mem _ (List.mem_append_left _ (List.mem_append_left _ (List.mem_append_left _ (List.mem_append_left _ (List.mem_append_left _ (List.mem_append_left _ (List.mem_append_left _ (List.mem_append_left _ (List.mem_append_right _ h)))))))))
theorem gwsRX12_workFrame_0 : GoodIn wsRX12_workFrame (wsV RX12 656 RX12 yX12_stepOne wsRX12_stepOne) := goodIn_sub (fun _ h => List.mem_cons_of_mem _ (List.mem_append_left _ (List.mem_append_left _ (List.mem_append_left _ (List.mem_append_left _ (List.mem_append_left _ (List.mem_append_left _ (List.mem_append_left _ (List.mem_append_right _ h))))))))) (gdV (by decide +kernel) gdwsRX12_stepOne)
theorem gwsRX12_workFrame_1 : GoodIn wsRX12_workFrame (wsV RX12 662 RX12 yX12_nought wsRX12_nought) := goodIn_sub (fun _ h => List.mem_cons_of_mem _ (List.mem_append_left _ (List.mem_append_left _ (List.mem_append_left _ (List.mem_append_left _ (List.mem_append_left _ (List.mem_append_left _ (List.mem_append_right _ h)))))))) (gdV (by decide +kernel) gdwsRX12_nought)
theorem gwsRX12_workFrame_2 : GoodIn wsRX12_workFrame (wsV RX12 665 RX12 yX12_workName wsRX12_workName) := goodIn_sub (fun _ h => List.mem_cons_of_mem _ (List.mem_append_left _ (List.mem_append_left _ (List.mem_append_left _ (List.mem_append_left _ (List.mem_append_left _ (List.mem_append_right _ h))))))) (gdV (by decide +kernel) gdwsRX12_workName)
theorem gwsRX12_workFrame_3 : GoodIn wsRX12_workFrame (wsV RX12 650 RX12 yX12_call wsRX12_call) := goodIn_sub (fun _ h => List.mem_cons_of_mem _ (List.mem_append_left _ (List.mem_append_left _ (List.mem_append_left _ (List.mem_append_left _ (List.mem_append_right _ h)))))) (gdV (by decide +kernel) gdwsRX12_call)
theorem gwsRX12_workFrame_4 : GoodIn wsRX12_workFrame (wsV RX12 680 RX12 yX12_workPair wsRX12_workPair) := goodIn_sub (fun _ h => List.mem_cons_of_mem _ (List.mem_append_left _ (List.mem_append_left _ (List.mem_append_left _ (List.mem_append_right _ h))))) (gdV (by decide +kernel) gdwsRX12_workPair)
theorem gwsRX12_workFrame_5 : GoodIn wsRX12_workFrame (wsV RX12 668 RX12 yX12_workSum wsRX12_workSum) := goodIn_sub (fun _ h => List.mem_cons_of_mem _ (List.mem_append_left _ (List.mem_append_left _ (List.mem_append_right _ h)))) (gdV (by decide +kernel) gdwsRX12_workSum)
theorem gwsRX12_workFrame_6 : GoodIn wsRX12_workFrame (wsV RX12 671 RX12 yX12_workJoined wsRX12_workJoined) := goodIn_sub (fun _ h => List.mem_cons_of_mem _ (List.mem_append_left _ (List.mem_append_right _ h))) (gdV (by decide +kernel) gdwsRX12_workJoined)
theorem gwsRX12_workFrame_7 : GoodIn wsRX12_workFrame (wsV RX12 677 RX12 yX12_workCompare wsRX12_workCompare) := goodIn_sub (fun _ h => List.mem_cons_of_mem _ (List.mem_append_right _ h)) (gdV (by decide +kernel) gdwsRX12_workCompare)
theorem gdwsRX12_workFrame : wsRX12_workFrame.all goodWord = true := gdC rfl (gdA (gdA (gdA (gdA (gdA (gdA (gdA (gdA (gdA (by decide +kernel : ([.fieldLink RX12 179 "OptimaWorksModel" "frame" "[I", .fieldLink RX12 110 "OptimaWorksModel" "kind" "[I", .fieldLink RX12 659 "OptimaWorksModel" "piled" "I", .fieldLink RX12 170 "OptimaWorksModel" "top" "[I", .fieldLink RX12 113 "OptimaWorksModel" "partA" "[I", .fieldLink RX12 647 "OptimaWorksModel" "framed" "I", .fieldLink RX12 176 "OptimaWorksModel" "env" "[I", .fieldLink RX12 182 "OptimaWorksModel" "stage" "[I", .fieldLink RX12 674 "OptimaWorksModel" "truth" "Z"] : List Cond).all goodWord = true) gdwsX120) (gdV (by decide +kernel) gdwsRX12_stepOne)) (gdV (by decide +kernel) gdwsRX12_nought)) (gdV (by decide +kernel) gdwsRX12_workName)) (gdV (by decide +kernel) gdwsRX12_call)) (gdV (by decide +kernel) gdwsRX12_workPair)) (gdV (by decide +kernel) gdwsRX12_workSum)) (gdV (by decide +kernel) gdwsRX12_workJoined)) (gdV (by decide +kernel) gdwsRX12_workCompare))
theorem hm_r_X12_workFrame_0 : (.fieldLink RX12 110 "OptimaWorksModel" "kind" "[I" : Cond) ∈ wsRX12_workFrame := by decide +kernel
theorem hm_r_X12_workFrame_1 : (.fieldLink RX12 659 "OptimaWorksModel" "piled" "I" : Cond) ∈ wsRX12_workFrame := by decide +kernel
theorem hm_r_X12_workFrame_2 : (.fieldLink RX12 170 "OptimaWorksModel" "top" "[I" : Cond) ∈ wsRX12_workFrame := by decide +kernel
theorem hm_r_X12_workFrame_3 : (.fieldLink RX12 113 "OptimaWorksModel" "partA" "[I" : Cond) ∈ wsRX12_workFrame := by decide +kernel
theorem hm_r_X12_workFrame_4 : (.fieldLink RX12 647 "OptimaWorksModel" "framed" "I" : Cond) ∈ wsRX12_workFrame := by decide +kernel
theorem hm_r_X12_workFrame_5 : (.fieldLink RX12 182 "OptimaWorksModel" "stage" "[I" : Cond) ∈ wsRX12_workFrame := by decide +kernel
theorem hm_r_X12_workFrame_6 : (.fieldLink RX12 674 "OptimaWorksModel" "truth" "Z" : Cond) ∈ wsRX12_workFrame := by decide +kernel
set_option maxHeartbeats 4000000 in
set_option maxRecDepth 100000 in
/-- workFrame(f) -/
theorem r_X12_workFrame (l : Launch) (dC : Nat → ClassId) (dI : Nat → Nat → Nat) (a : Nat → Nat) (k : Nat → ClassId) (h0 : Nat) (vi : Nat → Int32) (vj : Nat → Int64) (vF : Nat → Nat → Int32) (vG : Nat → Nat → Int64) (nF : Nat → Nat → Int32) (V : Nat → Prop) (wt : Nat → Nat) (dp : Nat → Nat) (pd : Nat → Nat) (nN : Nat) (kN : Nat) (sN : Nat) (la : Nat) (hN : Nat) (pN : Nat) (rN : Nat) (fN : Nat) (fr : Nat) (se : Nat) (hnN : nN < 4000) (hfN : fN < 4299) (hkN : vF 29 nN = nI kN) (hsN : vF 53 fN = nI sN) (hfr9 : vi 89 = nI fr) (hfr1 : fr = fN + 1) (hTo : TopO nF V wt dp pd nN kN sN la hN pN rN) (hse44 : se ≤ 44) (hSe : SeO (vF 16) (vF 17) se) (hnF : vF 52 fN = nI nN) (hn17 : vF 17 = nF 17) (hn18 : vF 18 = nF 18) (hn19 : vF 19 = nF 19) (hn20 : vF 20 = nF 20) (hn21 : vF 21 = nF 21) (hn24 : vF 24 = nF 24) (hn25 : vF 25 = nF 25) (hn26 : vF 26 = nF 26) (hn27 : vF 27 = nF 27) (hn29 : vF 29 = nF 29) (hn30 : vF 30 = nF 30) (hn31 : vF 31 = nF 31) (hn32 : vF 32 = nF 32) (hn36 : vF 36 = nF 36) (hn37 : vF 37 = nF 37) (hn38 : vF 38 = nF 38) (hNd : NdK nF V wt dp pd se nN kN) (hEn : EnO (vF 51)) (hPt : PtO (vF 22) (vF 23) (nuF nF)) (hla : LaK kN sN (vF 54) fN la) (hpl : vi 81 = nI pN) (hRw : ∀ v9, v9 < pN → RowU (vF 49) (vF 50) v9) (hpp : hN + pd nN ≤ 80) (hst0 : 0 ≤ (vi 21).toInt) (hst1 : (vi 21).toInt ≤ 0) (sz : Nat) : Met l yX12_workFrame wsRX12_workFrame ({ frames := 4, cells := 0, slots := 0, locals := 118 }) (va_Pc [.ref h0, .int (nI fN)] (fun U => U.heap.size = sz ∧ va_P (dC, dI) vwCl (WR a k h0 vi vj vF vG) U.heap ∧ va_K (dC, dI) vwCl (tX12 k) U ∧ va_D (fun _ => True) (WR a k h0 vi vj vF vG))) (va_Qv (fun (u : (Nat → Int32) × (Nat → Int32) × (Nat → Int32) × (Nat → Int32) × (Nat → Int32) × (Nat → Int32) × (Nat) × (Nat) × (Int32) × (Int32) × (Int32) × (Int32)) => (∀ v9, v9 < (u.2.2.2.2.2.2.2.1) → RowU (u.1) (u.2.1) v9) ∧ (EnO (u.2.2.1)) ∧ (0 ≤ ((u.2.2.2.2.2.2.2.2.1)).toInt) ∧ ((u.2.2.2.2.2.2.2.2.1) = vi 21 ∨ 0 < ((u.2.2.2.2.2.2.2.2.1)).toInt) ∧ (0 < ((u.2.2.2.2.2.2.2.2.1)).toInt ∨ StpO nF V wt dp pd nN kN fN hN rN (vF 52) (vF 53) (vF 54) (u.2.2.2.1) (u.2.2.2.2.1) (u.2.2.2.2.2.1) (u.2.2.2.2.2.2.1) (u.2.2.2.2.2.2.2.1)) ∧ ((u.2.2.2.2.2.2.1) ≤ fr + 1)) (fun (u : (Nat → Int32) × (Nat → Int32) × (Nat → Int32) × (Nat → Int32) × (Nat → Int32) × (Nat → Int32) × (Nat) × (Nat) × (Int32) × (Int32) × (Int32) × (Int32)) t => va_P (dC, dI) vwCl (WR a k h0 (fT (fT (fT (fT (fT (fT vi 21 (u.2.2.2.2.2.2.2.2.1)) 22 (u.2.2.2.2.2.2.2.2.2.1)) 82 (u.2.2.2.2.2.2.2.2.2.2.1)) 81 (nI (u.2.2.2.2.2.2.2.1))) 89 (nI (u.2.2.2.2.2.2.1))) 84 (u.2.2.2.2.2.2.2.2.2.2.2)) vj (fT (fT (fT (fT (fT (fT vF 49 (u.1)) 50 (u.2.1)) 54 (u.2.2.2.2.2.1)) 53 (u.2.2.2.2.1)) 51 (u.2.2.1)) 52 (u.2.2.2.1)) vG) t.heap ∧ va_D (va_A (WR a k h0 vi vj vF vG) sz) (WR a k h0 (fT (fT (fT (fT (fT (fT vi 21 (u.2.2.2.2.2.2.2.2.1)) 22 (u.2.2.2.2.2.2.2.2.2.1)) 82 (u.2.2.2.2.2.2.2.2.2.2.1)) 81 (nI (u.2.2.2.2.2.2.2.1))) 89 (nI (u.2.2.2.2.2.2.1))) 84 (u.2.2.2.2.2.2.2.2.2.2.2)) vj (fT (fT (fT (fT (fT (fT vF 49 (u.1)) 50 (u.2.1)) 54 (u.2.2.2.2.2.1)) 53 (u.2.2.2.2.1)) 51 (u.2.2.1)) 52 (u.2.2.2.1)) vG)) (va_A (WR a k h0 vi vj vF vG) sz)) 0 0 (va_A (WR a k h0 vi vj vF vG) sz) := by
  refine Met.ofW (cc := cX12_workFrame) (maxL := 4) (ret := none) (by decide) rfl ?_
  intro p e s m args below meth c s₁ B hml hv
  obtain ⟨rfl, hsz, hP, hK, hD0⟩ := hv
  have hx := B.exec
  have hb := B.bytes
  have hr := B.returns
  have hts := atoms_spec (ws := wsRX12_workFrame) B.pre
  have hown : s.vm.findClass RX12 = some m.cls := findClass_of_methodNamed B.named
  have hlocks := B.notSynchronized
  subst hsz
  have hD := hD0.self (sz := s.heap.size)
  generalize hAe : va_A (WR a k h0 vi vj vF vG) s.heap.size = A at hD ⊢
  have hA : ∀ q : Nat, s.heap.size ≤ q → A q := fun q h => by rw [← hAe]; exact Or.inr h
  have hS : va_S A s.heap s.heap [] := va_S.rf
  have hl := lv_entry ([.ref h0, .int (nI fN)]) (n := 4) (Nat.le_of_ble_eq_true rfl)
  rw [lg_entry_eq]
  generalize (lg_sl ([.ref h0, .int (nI fN)]) ++ List.replicate (4 - (lg_sl ([.ref h0, .int (nI fN)])).length) Slot.unset).toArray = ls at hl ⊢
  have hl : lv_has ls 4 [(0, .ref h0), (1, .int (nI fN))] := hl
  have hk13 := hNd.k13
  refine lv_aload_n hx hb dX12_workFrame_0 rfl (lv_at hl 0 rfl) ?_
  refine va_get (D := (dC, dI)) (ci := 12) (v := .ref (a 52)) (C := RX12) (T := TX12) (N := 163) (fs := fM (vS a vi vj)) hx hb hts iwsRX12_workFrame_in12 hown hK hP 0 rfl rfl 85 (by decide) (hts (.fieldLink RX12 179 "OptimaWorksModel" "frame" "[I") (by decide +kernel)) (fun _ h9 => h9) rfl dX12_workFrame_1 ?_
  refine lv_iload_n hx hb dX12_workFrame_4 rfl (lv_at hl 1 rfl) ?_
  refine va_iald (cA := k 52) (n := 4300) (f := (vF 52)) hx hb hK hP 53 52 (WR_get 52 (by decide)) (TR_get 52 (by decide)) (vp_in_nI (show fN < 4300 by omega) (by omega)) dX12_workFrame_5 ?_
  refine lv_topi (fun y1 hy1 => ?_)
  obtain rfl : ((vF 52) fN) = y1 := (hy1.trans (by rw [nI_clamp (by omega)])).symm
  refine lv_topi (fun y2 hy2 => ?_)
  obtain rfl : (nI nN) = y2 := (hy2.trans (hnF)).symm
  refine lv_istore_n hx hb dX12_workFrame_6 rfl hl (by decide) rfl (fun ls (hl : lv_has ls _ ([(2, .int (nI nN)), (0, .ref h0), (1, .int (nI fN))])) => ?_)
  refine lv_aload_n hx hb dX12_workFrame_7 rfl (lv_at hl 1 rfl) ?_
  refine va_get (D := (dC, dI)) (ci := 12) (v := .ref (a 29)) (C := RX12) (T := TX12) (N := 163) (fs := fM (vS a vi vj)) hx hb hts iwsRX12_workFrame_in12 hown hK hP 0 rfl rfl 53 (by decide) (hts _ hm_r_X12_workFrame_0) (fun _ h9 => h9) rfl dX12_workFrame_8 ?_
  refine lv_iload_n hx hb dX12_workFrame_11 rfl (lv_at hl 0 rfl) ?_
  refine va_iald (cA := k 29) (n := 4200) (f := (vF 29)) hx hb hK hP 30 29 (WR_get 29 (by decide)) (TR_get 29 (by decide)) (vp_in_nI (show nN < 4200 by omega) (by omega)) dX12_workFrame_12 ?_
  refine lv_topi (fun y3 hy3 => ?_)
  obtain rfl : ((vF 29) nN) = y3 := (hy3.trans (by rw [nI_clamp (by omega)])).symm
  refine lv_topi (fun y4 hy4 => ?_)
  obtain rfl : (nI kN) = y4 := (hy4.trans (hkN)).symm
  by_cases s_13_0 : (nI kN) = 0
  · have ts_13_0 : ((kN : Nat) : Int) = 0 := toI_eq s_13_0 (nI_toInt (by omega)) (by decide)
    refine lv_tableIn (off := 71) (tgt := 84) hx hb dX12_workFrame_13 (by rw [s_13_0]; decide) (by rw [s_13_0]; decide) (by rw [s_13_0]; decide) (by decide) ?_
    obtain ⟨hpd9, hb01, hb02⟩ := hNd.e0 (by omega)
    rw [← hn30] at hb01 hb02
    obtain ⟨hlf1, hlf2, _⟩ := hTo.leaf (by omega)
    refine lv_aload_n hx hb dX12_workFrame_84 rfl (lv_at hl 1 rfl) ?_
    have hFc := allFree hD hS hA
    refine va_callv (va_runV (As := []) (rest := []) ⟨hx, hb, hml, hown, hts⟩ (r_X12_stepOne l dC dI a k h0 vi vj vF vG (by first | with_reducible assumption | decide | omega | rfl | assumption) s.heap.size) (cwV 0 hts gwsRX12_workFrame_0 rfl rfl rfl hd_yX12_stepOne_RX12 (by decide +kernel)) (fz_pre (va_recv hK hP (ci := 12) (q0 := 0) rfl rfl) hP hK hD) rfl rfl hl.1 rfl (lv_room (Nat.le_of_ble_eq_true rfl)) dX12_workFrame_85 (by decide +kernel)) hS (fun q _ h => hFc q h) hFc (fun u t9_ H locs ht hvm hw9 hB9 hz1 hk1 hS => ?_)
    revert u hw9 hB9
    refine fz_p3 ?_
    intro s285 p285 sp285 hw9 hB9
    try dsimp only at hw9 hB9
    have hP : va_P (dC, dI) vwCl (WR a k h0 (fT (fT (fT vi 21 s285) 22 p285) 82 sp285) vj vF vG) H := fz_P ht hB9.1
    have hD := fz_sd hP (hB9.2.weaken (fun _ q _ h => hFc q.1 h)) rfl
    revert hw9
    refine fz_a2 ?_
    intro f85_0 f85_1
    have f85_1 : s285 = (vi 21) ∨ 0 < (s285).toInt := f85_1
    refine lv_aload_n hx hb dX12_workFrame_88 rfl (lv_at hl 1 rfl) ?_
    refine lv_aload_n hx hb dX12_workFrame_89 rfl (lv_at hl 1 rfl) ?_
    refine va_get (D := (dC, dI)) (ci := 12) (v := .int (vi 81)) (C := RX12) (T := TX12) (N := 163) (fs := fM (vS a (fT (fT (fT vi 21 s285) 22 p285) 82 sp285) vj)) hx hb hts iwsRX12_workFrame_in12 hown hK hP 0 rfl rfl 81 (by decide) (hts _ hm_r_X12_workFrame_1) (fun _ h9 => h9) rfl dX12_workFrame_90 ?_
    refine lv_topi (fun y5 hy5 => ?_)
    obtain rfl : (nI pN) = y5 := (hy5.trans (hpl)).symm
    have hFc := allFree hD hS hA
    refine va_callv (va_runV (As := [.int (nI pN)]) (rest := []) ⟨hx, hb, hml, hown, hts⟩ (r_X12_nought l dC dI a k h0 (fT (fT (fT vi 21 s285) 22 p285) 82 sp285) vj vF vG pN (by first | with_reducible assumption | decide | omega | rfl | assumption) H.size) (cwV 1 hts gwsRX12_workFrame_1 rfl rfl rfl hd_yX12_nought_RX12 (by decide +kernel)) (fz_pre (va_recv hK hP (ci := 12) (q0 := 0) rfl rfl) hP hK hD) rfl rfl hl.1 rfl (lv_room (Nat.le_of_ble_eq_true rfl)) dX12_workFrame_93 (by decide +kernel)) hS (fun q _ h => hFc q h) hFc (fun u t9_ H locs ht hvm hw9 hB9 hz1 hk1 hS => ?_)
    revert u hw9 hB9
    refine fz_p2 ?_
    intro f4993 f5093 hw9 hB9
    try dsimp only at hw9 hB9
    have hP : va_P (dC, dI) vwCl (WR a k h0 (fT (fT (fT vi 21 s285) 22 p285) 82 sp285) vj (fT (fT vF 49 f4993) 50 f5093) vG) H := fz_P ht hB9.1
    have hD := fz_sd hP (hB9.2.weaken (fun _ q _ h => hFc q.1 h)) rfl
    revert hw9
    refine fz_a4 ?_
    intro f93_0 f93_1 f93_2 f93_3
    have f93_2 : ∀ q, (q < 9 * pN ∨ 9 * pN + 9 ≤ q) → f4993 q = (vF 49) q := f93_2
    have f93_3 : ∀ q, (q < 9 * pN ∨ 9 * pN + 9 ≤ q) → f5093 q = (vF 50) q := f93_3
    refine lv_aload_n hx hb dX12_workFrame_96 rfl (lv_at hl 1 rfl) ?_
    refine va_get (D := (dC, dI)) (ci := 12) (v := .ref (a 49)) (C := RX12) (T := TX12) (N := 163) (fs := fM (vS a (fT (fT (fT vi 21 s285) 22 p285) 82 sp285) vj)) hx hb hts iwsRX12_workFrame_in12 hown hK hP 0 rfl rfl 78 (by decide) (hts _ hm_r_X12_workFrame_2) (fun _ h9 => h9) rfl dX12_workFrame_97 ?_
    refine lv_bipush (v := 9) hx hb dX12_workFrame_100 (by decide) ?_
    refine lv_aload_n hx hb dX12_workFrame_102 rfl (lv_at hl 1 rfl) ?_
    refine va_get (D := (dC, dI)) (ci := 12) (v := .int (vi 81)) (C := RX12) (T := TX12) (N := 163) (fs := fM (vS a (fT (fT (fT vi 21 s285) 22 p285) 82 sp285) vj)) hx hb hts iwsRX12_workFrame_in12 hown hK hP 0 rfl rfl 81 (by decide) (hts _ hm_r_X12_workFrame_1) (fun _ h9 => h9) rfl dX12_workFrame_103 ?_
    refine lv_topi (fun y6 hy6 => ?_)
    obtain rfl : (nI pN) = y6 := (hy6.trans (hpl)).symm
    refine lv_imul hx hb dX12_workFrame_106 ?_
    refine lv_topi (fun y7 hy7 => ?_)
    obtain rfl : (nI (9 * pN)) = y7 := (hy7.trans (pk_mul 9 pN)).symm
    refine lv_aload_n hx hb dX12_workFrame_107 rfl (lv_at hl 1 rfl) ?_
    refine va_get (D := (dC, dI)) (ci := 12) (v := .ref (a 29)) (C := RX12) (T := TX12) (N := 163) (fs := fM (vS a (fT (fT (fT vi 21 s285) 22 p285) 82 sp285) vj)) hx hb hts iwsRX12_workFrame_in12 hown hK hP 0 rfl rfl 53 (by decide) (hts _ hm_r_X12_workFrame_0) (fun _ h9 => h9) rfl dX12_workFrame_108 ?_
    refine lv_iload_n hx hb dX12_workFrame_111 rfl (lv_at hl 0 rfl) ?_
    refine va_iald (cA := k 29) (n := 4200) (f := (vF 29)) hx hb hK hP 30 29 (WR_get 29 (by decide)) (TR_get 29 (by decide)) (vp_in_nI (show nN < 4200 by omega) (by omega)) dX12_workFrame_112 ?_
    refine lv_topi (fun y8 hy8 => ?_)
    obtain rfl : ((vF 29) nN) = y8 := (hy8.trans (by rw [nI_clamp (by omega)])).symm
    refine lv_topi (fun y9 hy9 => ?_)
    obtain rfl : (nI kN) = y9 := (hy9.trans (hkN)).symm
    refine lv_if_ne (tgt := 125) hx hb dX12_workFrame_113 (by decide) (fun c9 => False.elim (by have t9 : ((kN : Nat) : Int) ≠ 0 := toI_ne c9 (nI_toInt (by omega)) (by decide); omega)) (fun c_113 => ?_)
    have t_113 : ((kN : Nat) : Int) = 0 := toI_nne c_113 (nI_toInt (by omega)) (by decide)
    refine lv_aload_n hx hb dX12_workFrame_116 rfl (lv_at hl 1 rfl) ?_
    refine va_get (D := (dC, dI)) (ci := 12) (v := .ref (a 30)) (C := RX12) (T := TX12) (N := 163) (fs := fM (vS a (fT (fT (fT vi 21 s285) 22 p285) 82 sp285) vj)) hx hb hts iwsRX12_workFrame_in12 hown hK hP 0 rfl rfl 54 (by decide) (hts _ hm_r_X12_workFrame_3) (fun _ h9 => h9) rfl dX12_workFrame_117 ?_
    refine lv_iload_n hx hb dX12_workFrame_120 rfl (lv_at hl 0 rfl) ?_
    refine va_iald (cA := k 30) (n := 4200) (f := (vF 30)) hx hb hK hP 31 30 (WR_get 30 (by decide)) (TR_get 30 (by decide)) (vp_in_nI (show nN < 4200 by omega) (by omega)) dX12_workFrame_121 ?_
    refine lv_topi (fun y10 hy10 => ?_)
    obtain rfl : ((vF 30) nN) = y10 := (hy10.trans (by rw [nI_clamp (by omega)])).symm
    refine lv_goto (tgt := 136) hx hb dX12_workFrame_122 (by decide) ?_
    refine va_iast (cA := k 49) (n := 900) (f := f4993) hx hb hK hP hD hS 50 49 (WR_get 49 (by decide)) (TR_get 49 (by decide)) (vp_in_nI (show (9 * pN) < 900 by omega) (by omega)) dX12_workFrame_136 (fun H locs hP hD hS => ?_)
    have e9 : fT (fT vF 49 (upd f4993 ((nI (9 * pN))).toNatClampNeg ((vF 30) nN))) 50 f5093 = fT (fT (fT vF 49 f4993) 50 f5093) 49 (upd f4993 ((nI (9 * pN))).toNatClampNeg ((vF 30) nN)) := ((fT_sw _ _ _ (Nat.ne_of_beq_eq_false rfl)).trans (congrArg (fun g9 => fT g9 50 f5093) (fT_sm _ _ _ _))).symm
    have hP := wr_PF e9 (fz_w (WR_F 49 (by decide) _ rfl) hP)
    have hD := wr_DF e9 (fz_wD (WR_F 49 (by decide) _ rfl) hD)
    clear e9
    refine lv_aload_n hx hb dX12_workFrame_137 rfl (lv_at hl 1 rfl) ?_
    refine lv_dup hx hb dX12_workFrame_138 rfl ?_
    refine va_get (D := (dC, dI)) (ci := 12) (v := .int (vi 81)) (C := RX12) (T := TX12) (N := 163) (fs := fM (vS a (fT (fT (fT vi 21 s285) 22 p285) 82 sp285) vj)) hx hb hts iwsRX12_workFrame_in12 hown hK hP 0 rfl rfl 81 (by decide) (hts _ hm_r_X12_workFrame_1) (fun _ h9 => h9) rfl dX12_workFrame_139 ?_
    refine lv_topi (fun y11 hy11 => ?_)
    obtain rfl : (nI pN) = y11 := (hy11.trans (hpl)).symm
    refine lv_iconst (v := 1) hx hb dX12_workFrame_142 (by decide) ?_
    refine lv_iadd hx hb dX12_workFrame_143 ?_
    refine lv_topi (fun y12 hy12 => ?_)
    obtain rfl : (nI (pN + 1)) = y12 := (hy12.trans (nI_add pN 1)).symm
    refine va_put (D := (dC, dI)) (ci := 12) (v := .int (nI (pN + 1))) (ty := .int) (C := RX12) (T := TX12) (N := 163) (fs := fM (vS a (fT (fT (fT vi 21 s285) 22 p285) 82 sp285) vj)) hx hb hts iwsRX12_workFrame_in12 tyX12 tyX12_ok nmX12 hown hK hP hD hS 0 rfl rfl 81 (by decide) (hts _ hm_r_X12_workFrame_1) (fun _ h9 => h9) rfl (by decide +kernel) rfl rfl (Nat.le_of_ble_eq_true rfl) dX12_workFrame_144 (fun H locs hP hD hS => ?_)
    have hP : va_P (dC, dI) vwCl (WR a k h0 (fT (fT (fT (fT vi 21 s285) 22 p285) 82 sp285) 81 (nI (pN + 1))) vj (fT (fT vF 49 (upd f4993 ((nI (9 * pN))).toNatClampNeg ((vF 30) nN))) 50 f5093) vG) H := fz_w (WR_i 81 _ rfl) hP
    have hD : va_D A (WR a k h0 (fT (fT (fT (fT vi 21 s285) 22 p285) 82 sp285) 81 (nI (pN + 1))) vj (fT (fT vF 49 (upd f4993 ((nI (9 * pN))).toNatClampNeg ((vF 30) nN))) 50 f5093) vG) := fz_wD (WR_i 81 _ rfl) hD
    refine lv_aload_n hx hb dX12_workFrame_147 rfl (lv_at hl 1 rfl) ?_
    refine lv_dup hx hb dX12_workFrame_148 rfl ?_
    refine va_get (D := (dC, dI)) (ci := 12) (v := .int (vi 89)) (C := RX12) (T := TX12) (N := 163) (fs := fM (vS a (fT (fT (fT (fT vi 21 s285) 22 p285) 82 sp285) 81 (nI (pN + 1))) vj)) hx hb hts iwsRX12_workFrame_in12 hown hK hP 0 rfl rfl 89 (by decide) (hts _ hm_r_X12_workFrame_4) (fun _ h9 => h9) rfl dX12_workFrame_149 ?_
    refine lv_topi (fun y13 hy13 => ?_)
    obtain rfl : (nI fr) = y13 := (hy13.trans (hfr9)).symm
    refine lv_iconst (v := 1) hx hb dX12_workFrame_152 (by decide) ?_
    refine lv_isub hx hb dX12_workFrame_153 ?_
    refine lv_topi (fun y14 hy14 => ?_)
    obtain rfl : (nI (fr - 1)) = y14 := (hy14.trans (pk_sub (a := fr) (b := 1) (by omega))).symm
    refine va_put (D := (dC, dI)) (ci := 12) (v := .int (nI (fr - 1))) (ty := .int) (C := RX12) (T := TX12) (N := 163) (fs := fM (vS a (fT (fT (fT (fT vi 21 s285) 22 p285) 82 sp285) 81 (nI (pN + 1))) vj)) hx hb hts iwsRX12_workFrame_in12 tyX12 tyX12_ok nmX12 hown hK hP hD hS 0 rfl rfl 89 (by decide) (hts _ hm_r_X12_workFrame_4) (fun _ h9 => h9) rfl (by decide +kernel) rfl rfl (Nat.le_of_ble_eq_true rfl) dX12_workFrame_154 (fun H locs hP hD hS => ?_)
    have hP : va_P (dC, dI) vwCl (WR a k h0 (fT (fT (fT (fT (fT vi 21 s285) 22 p285) 82 sp285) 81 (nI (pN + 1))) 89 (nI (fr - 1))) vj (fT (fT vF 49 (upd f4993 ((nI (9 * pN))).toNatClampNeg ((vF 30) nN))) 50 f5093) vG) H := fz_w (WR_i 89 _ rfl) hP
    have hD : va_D A (WR a k h0 (fT (fT (fT (fT (fT vi 21 s285) 22 p285) 82 sp285) 81 (nI (pN + 1))) 89 (nI (fr - 1))) vj (fT (fT vF 49 (upd f4993 ((nI (9 * pN))).toNatClampNeg ((vF 30) nN))) 50 f5093) vG) := fz_wD (WR_i 89 _ rfl) hD
    refine lv_goto (tgt := 357) hx hb dX12_workFrame_157 (by decide) ?_
    refine W.widen (k := 0) (n := 0) (by decide +kernel) (by decide +kernel) ?_
    have e9 : fT (fT (fT (fT (fT (fT vi 21 s285) 22 p285) 82 sp285) 81 (nI (pN + 1))) 89 (nI (fr - 1))) 84 (vi 84) = fT (fT (fT (fT (fT vi 21 s285) 22 p285) 82 sp285) 81 (nI (pN + 1))) 89 (nI (fr - 1)) := fT_id _ _ ((fT_ne _ _ (Nat.ne_of_beq_eq_false rfl)).trans ((fT_ne _ _ (Nat.ne_of_beq_eq_false rfl)).trans ((fT_ne _ _ (Nat.ne_of_beq_eq_false rfl)).trans ((fT_ne _ _ (Nat.ne_of_beq_eq_false rfl)).trans (fT_ne _ _ (Nat.ne_of_beq_eq_false rfl))))))
    have hP := wr_Pi e9 hP
    have hD := wr_Di e9 hD
    clear e9
    have e9 : fT (fT (fT (fT (fT (fT vF 49 (upd f4993 ((nI (9 * pN))).toNatClampNeg ((vF 30) nN))) 50 f5093) 54 (vF 54)) 53 (vF 53)) 51 (vF 51)) 52 (vF 52) = fT (fT vF 49 (upd f4993 ((nI (9 * pN))).toNatClampNeg ((vF 30) nN))) 50 f5093 := ch_E vF [upd f4993 ((nI (9 * pN))).toNatClampNeg ((vF 30) nN), f5093] [(52, 0), (51, 0), (53, 0), (54, 0), (50, 2), (49, 1)] [(50, 2), (49, 1)] [] trivial (by decide +kernel)
    have hP := wr_PF e9 hP
    have hD := wr_DF e9 hD
    clear e9
    exact W.vret hx hb hr (fun t9_ ht hW => ⟨⟨((upd f4993 ((nI (9 * pN))).toNatClampNeg ((vF 30) nN)), f5093, (vF 51), (vF 52), (vF 53), (vF 54), (fr - 1), (pN + 1), s285, p285, sp285, (vi 84)), rfl, by (try dsimp only); exact ⟨fun v9 h9 => RowU.top (by omega) (RowU.nought f93_0 f93_1 (fun q h9 => f93_2 q (Or.inl h9)) (fun q h9 => f93_3 q (Or.inl h9)) hRw (show v9 ≤ pN by omega)) ⟨by omega, by omega⟩, hEn, f85_0, f85_1, Or.inr (StpO.pop0 hfr1 (by rw [if_pos (by omega)]; omega)), by omega⟩, by rw [ht]; exact hP, hD⟩, hS.F ht⟩) hS.2.2 dX12_workFrame_357
  · have ts_13_0 : ¬ ((kN : Nat) : Int) = 0 := toI_neq s_13_0 (nI_toInt (by omega)) (by decide)
    by_cases s_13_1 : (nI kN) = 1
    · have ts_13_1 : ((kN : Nat) : Int) = 1 := toI_eq s_13_1 (nI_toInt (by omega)) (by decide)
      refine lv_tableIn (off := 71) (tgt := 84) hx hb dX12_workFrame_13 (by rw [s_13_1]; decide) (by rw [s_13_1]; decide) (by rw [s_13_1]; decide) (by decide) ?_
      obtain ⟨hpd9, xN, hx60, hx9⟩ := hNd.e1 (by omega)
      obtain ⟨hlf1, hlf2, _⟩ := hTo.leaf (by omega)
      refine lv_aload_n hx hb dX12_workFrame_84 rfl (lv_at hl 1 rfl) ?_
      have hFc := allFree hD hS hA
      refine va_callv (va_runV (As := []) (rest := []) ⟨hx, hb, hml, hown, hts⟩ (r_X12_stepOne l dC dI a k h0 vi vj vF vG (by first | with_reducible assumption | decide | omega | rfl | assumption) s.heap.size) (cwV 0 hts gwsRX12_workFrame_0 rfl rfl rfl hd_yX12_stepOne_RX12 (by decide +kernel)) (fz_pre (va_recv hK hP (ci := 12) (q0 := 0) rfl rfl) hP hK hD) rfl rfl hl.1 rfl (lv_room (Nat.le_of_ble_eq_true rfl)) dX12_workFrame_85 (by decide +kernel)) hS (fun q _ h => hFc q h) hFc (fun u t9_ H locs ht hvm hw9 hB9 hz1 hk1 hS => ?_)
      revert u hw9 hB9
      refine fz_p3 ?_
      intro s285_1 p285_1 sp285_1 hw9 hB9
      try dsimp only at hw9 hB9
      have hP : va_P (dC, dI) vwCl (WR a k h0 (fT (fT (fT vi 21 s285_1) 22 p285_1) 82 sp285_1) vj vF vG) H := fz_P ht hB9.1
      have hD := fz_sd hP (hB9.2.weaken (fun _ q _ h => hFc q.1 h)) rfl
      revert hw9
      refine fz_a2 ?_
      intro f85_1_0 f85_1_1
      have f85_1_1 : s285_1 = (vi 21) ∨ 0 < (s285_1).toInt := f85_1_1
      refine lv_aload_n hx hb dX12_workFrame_88 rfl (lv_at hl 1 rfl) ?_
      refine lv_aload_n hx hb dX12_workFrame_89 rfl (lv_at hl 1 rfl) ?_
      refine va_get (D := (dC, dI)) (ci := 12) (v := .int (vi 81)) (C := RX12) (T := TX12) (N := 163) (fs := fM (vS a (fT (fT (fT vi 21 s285_1) 22 p285_1) 82 sp285_1) vj)) hx hb hts iwsRX12_workFrame_in12 hown hK hP 0 rfl rfl 81 (by decide) (hts _ hm_r_X12_workFrame_1) (fun _ h9 => h9) rfl dX12_workFrame_90 ?_
      refine lv_topi (fun y15 hy15 => ?_)
      obtain rfl : (nI pN) = y15 := (hy15.trans (hpl)).symm
      have hFc := allFree hD hS hA
      refine va_callv (va_runV (As := [.int (nI pN)]) (rest := []) ⟨hx, hb, hml, hown, hts⟩ (r_X12_nought l dC dI a k h0 (fT (fT (fT vi 21 s285_1) 22 p285_1) 82 sp285_1) vj vF vG pN (by first | with_reducible assumption | decide | omega | rfl | assumption) H.size) (cwV 1 hts gwsRX12_workFrame_1 rfl rfl rfl hd_yX12_nought_RX12 (by decide +kernel)) (fz_pre (va_recv hK hP (ci := 12) (q0 := 0) rfl rfl) hP hK hD) rfl rfl hl.1 rfl (lv_room (Nat.le_of_ble_eq_true rfl)) dX12_workFrame_93 (by decide +kernel)) hS (fun q _ h => hFc q h) hFc (fun u t9_ H locs ht hvm hw9 hB9 hz1 hk1 hS => ?_)
      revert u hw9 hB9
      refine fz_p2 ?_
      intro f4993_1 f5093_1 hw9 hB9
      try dsimp only at hw9 hB9
      have hP : va_P (dC, dI) vwCl (WR a k h0 (fT (fT (fT vi 21 s285_1) 22 p285_1) 82 sp285_1) vj (fT (fT vF 49 f4993_1) 50 f5093_1) vG) H := fz_P ht hB9.1
      have hD := fz_sd hP (hB9.2.weaken (fun _ q _ h => hFc q.1 h)) rfl
      revert hw9
      refine fz_a4 ?_
      intro f93_1_0 f93_1_1 f93_1_2 f93_1_3
      have f93_1_2 : ∀ q, (q < 9 * pN ∨ 9 * pN + 9 ≤ q) → f4993_1 q = (vF 49) q := f93_1_2
      have f93_1_3 : ∀ q, (q < 9 * pN ∨ 9 * pN + 9 ≤ q) → f5093_1 q = (vF 50) q := f93_1_3
      refine lv_aload_n hx hb dX12_workFrame_96 rfl (lv_at hl 1 rfl) ?_
      refine va_get (D := (dC, dI)) (ci := 12) (v := .ref (a 49)) (C := RX12) (T := TX12) (N := 163) (fs := fM (vS a (fT (fT (fT vi 21 s285_1) 22 p285_1) 82 sp285_1) vj)) hx hb hts iwsRX12_workFrame_in12 hown hK hP 0 rfl rfl 78 (by decide) (hts _ hm_r_X12_workFrame_2) (fun _ h9 => h9) rfl dX12_workFrame_97 ?_
      refine lv_bipush (v := 9) hx hb dX12_workFrame_100 (by decide) ?_
      refine lv_aload_n hx hb dX12_workFrame_102 rfl (lv_at hl 1 rfl) ?_
      refine va_get (D := (dC, dI)) (ci := 12) (v := .int (vi 81)) (C := RX12) (T := TX12) (N := 163) (fs := fM (vS a (fT (fT (fT vi 21 s285_1) 22 p285_1) 82 sp285_1) vj)) hx hb hts iwsRX12_workFrame_in12 hown hK hP 0 rfl rfl 81 (by decide) (hts _ hm_r_X12_workFrame_1) (fun _ h9 => h9) rfl dX12_workFrame_103 ?_
      refine lv_topi (fun y16 hy16 => ?_)
      obtain rfl : (nI pN) = y16 := (hy16.trans (hpl)).symm
      refine lv_imul hx hb dX12_workFrame_106 ?_
      refine lv_topi (fun y17 hy17 => ?_)
      obtain rfl : (nI (9 * pN)) = y17 := (hy17.trans (pk_mul 9 pN)).symm
      refine lv_aload_n hx hb dX12_workFrame_107 rfl (lv_at hl 1 rfl) ?_
      refine va_get (D := (dC, dI)) (ci := 12) (v := .ref (a 29)) (C := RX12) (T := TX12) (N := 163) (fs := fM (vS a (fT (fT (fT vi 21 s285_1) 22 p285_1) 82 sp285_1) vj)) hx hb hts iwsRX12_workFrame_in12 hown hK hP 0 rfl rfl 53 (by decide) (hts _ hm_r_X12_workFrame_0) (fun _ h9 => h9) rfl dX12_workFrame_108 ?_
      refine lv_iload_n hx hb dX12_workFrame_111 rfl (lv_at hl 0 rfl) ?_
      refine va_iald (cA := k 29) (n := 4200) (f := (vF 29)) hx hb hK hP 30 29 (WR_get 29 (by decide)) (TR_get 29 (by decide)) (vp_in_nI (show nN < 4200 by omega) (by omega)) dX12_workFrame_112 ?_
      refine lv_topi (fun y18 hy18 => ?_)
      obtain rfl : ((vF 29) nN) = y18 := (hy18.trans (by rw [nI_clamp (by omega)])).symm
      refine lv_topi (fun y19 hy19 => ?_)
      obtain rfl : (nI kN) = y19 := (hy19.trans (hkN)).symm
      refine lv_if_ne (tgt := 125) hx hb dX12_workFrame_113 (by decide) (fun c_113 => ?_) (fun c9 => False.elim (by have t9 : ((kN : Nat) : Int) = 0 := toI_nne c9 (nI_toInt (by omega)) (by decide); omega))
      have t_113 : ((kN : Nat) : Int) ≠ 0 := toI_ne c_113 (nI_toInt (by omega)) (by decide)
      refine lv_aload_n hx hb dX12_workFrame_125 rfl (lv_at hl 1 rfl) ?_
      refine va_get (D := (dC, dI)) (ci := 12) (v := .ref (a 51)) (C := RX12) (T := TX12) (N := 163) (fs := fM (vS a (fT (fT (fT vi 21 s285_1) 22 p285_1) 82 sp285_1) vj)) hx hb hts iwsRX12_workFrame_in12 hown hK hP 0 rfl rfl 80 (by decide) (hts (.fieldLink RX12 176 "OptimaWorksModel" "env" "[I") (by decide +kernel)) (fun _ h9 => h9) rfl dX12_workFrame_126 ?_
      refine lv_aload_n hx hb dX12_workFrame_129 rfl (lv_at hl 1 rfl) ?_
      refine va_get (D := (dC, dI)) (ci := 12) (v := .ref (a 30)) (C := RX12) (T := TX12) (N := 163) (fs := fM (vS a (fT (fT (fT vi 21 s285_1) 22 p285_1) 82 sp285_1) vj)) hx hb hts iwsRX12_workFrame_in12 hown hK hP 0 rfl rfl 54 (by decide) (hts _ hm_r_X12_workFrame_3) (fun _ h9 => h9) rfl dX12_workFrame_130 ?_
      refine lv_iload_n hx hb dX12_workFrame_133 rfl (lv_at hl 0 rfl) ?_
      refine va_iald (cA := k 30) (n := 4200) (f := (vF 30)) hx hb hK hP 31 30 (WR_get 30 (by decide)) (TR_get 30 (by decide)) (vp_in_nI (show nN < 4200 by omega) (by omega)) dX12_workFrame_134 ?_
      refine lv_topi (fun y20 hy20 => ?_)
      obtain rfl : ((vF 30) nN) = y20 := (hy20.trans (by rw [nI_clamp (by omega)])).symm
      refine lv_topi (fun y21 hy21 => ?_)
      obtain rfl : (nI xN) = y21 := (hy21.trans ((congrFun hn30 nN).trans hx9)).symm
      refine va_iald (cA := k 51) (n := 60) (f := (vF 51)) hx hb hK hP 52 51 (WR_get 51 (by decide)) (TR_get 51 (by decide)) (vp_in_nI (show xN < 60 by omega) (by omega)) dX12_workFrame_135 ?_
      refine lv_topi (fun y22 hy22 => ?_)
      obtain rfl : ((vF 51) xN) = y22 := (hy22.trans (by rw [nI_clamp (by omega)])).symm
      refine va_iast (cA := k 49) (n := 900) (f := f4993_1) hx hb hK hP hD hS 50 49 (WR_get 49 (by decide)) (TR_get 49 (by decide)) (vp_in_nI (show (9 * pN) < 900 by omega) (by omega)) dX12_workFrame_136 (fun H locs hP hD hS => ?_)
      have e9 : fT (fT vF 49 (upd f4993_1 ((nI (9 * pN))).toNatClampNeg ((vF 51) xN))) 50 f5093_1 = fT (fT (fT vF 49 f4993_1) 50 f5093_1) 49 (upd f4993_1 ((nI (9 * pN))).toNatClampNeg ((vF 51) xN)) := ((fT_sw _ _ _ (Nat.ne_of_beq_eq_false rfl)).trans (congrArg (fun g9 => fT g9 50 f5093_1) (fT_sm _ _ _ _))).symm
      have hP := wr_PF e9 (fz_w (WR_F 49 (by decide) _ rfl) hP)
      have hD := wr_DF e9 (fz_wD (WR_F 49 (by decide) _ rfl) hD)
      clear e9
      refine lv_aload_n hx hb dX12_workFrame_137 rfl (lv_at hl 1 rfl) ?_
      refine lv_dup hx hb dX12_workFrame_138 rfl ?_
      refine va_get (D := (dC, dI)) (ci := 12) (v := .int (vi 81)) (C := RX12) (T := TX12) (N := 163) (fs := fM (vS a (fT (fT (fT vi 21 s285_1) 22 p285_1) 82 sp285_1) vj)) hx hb hts iwsRX12_workFrame_in12 hown hK hP 0 rfl rfl 81 (by decide) (hts _ hm_r_X12_workFrame_1) (fun _ h9 => h9) rfl dX12_workFrame_139 ?_
      refine lv_topi (fun y23 hy23 => ?_)
      obtain rfl : (nI pN) = y23 := (hy23.trans (hpl)).symm
      refine lv_iconst (v := 1) hx hb dX12_workFrame_142 (by decide) ?_
      refine lv_iadd hx hb dX12_workFrame_143 ?_
      refine lv_topi (fun y24 hy24 => ?_)
      obtain rfl : (nI (pN + 1)) = y24 := (hy24.trans (nI_add pN 1)).symm
      refine va_put (D := (dC, dI)) (ci := 12) (v := .int (nI (pN + 1))) (ty := .int) (C := RX12) (T := TX12) (N := 163) (fs := fM (vS a (fT (fT (fT vi 21 s285_1) 22 p285_1) 82 sp285_1) vj)) hx hb hts iwsRX12_workFrame_in12 tyX12 tyX12_ok nmX12 hown hK hP hD hS 0 rfl rfl 81 (by decide) (hts _ hm_r_X12_workFrame_1) (fun _ h9 => h9) rfl (by decide +kernel) rfl rfl (Nat.le_of_ble_eq_true rfl) dX12_workFrame_144 (fun H locs hP hD hS => ?_)
      have hP : va_P (dC, dI) vwCl (WR a k h0 (fT (fT (fT (fT vi 21 s285_1) 22 p285_1) 82 sp285_1) 81 (nI (pN + 1))) vj (fT (fT vF 49 (upd f4993_1 ((nI (9 * pN))).toNatClampNeg ((vF 51) xN))) 50 f5093_1) vG) H := fz_w (WR_i 81 _ rfl) hP
      have hD : va_D A (WR a k h0 (fT (fT (fT (fT vi 21 s285_1) 22 p285_1) 82 sp285_1) 81 (nI (pN + 1))) vj (fT (fT vF 49 (upd f4993_1 ((nI (9 * pN))).toNatClampNeg ((vF 51) xN))) 50 f5093_1) vG) := fz_wD (WR_i 81 _ rfl) hD
      refine lv_aload_n hx hb dX12_workFrame_147 rfl (lv_at hl 1 rfl) ?_
      refine lv_dup hx hb dX12_workFrame_148 rfl ?_
      refine va_get (D := (dC, dI)) (ci := 12) (v := .int (vi 89)) (C := RX12) (T := TX12) (N := 163) (fs := fM (vS a (fT (fT (fT (fT vi 21 s285_1) 22 p285_1) 82 sp285_1) 81 (nI (pN + 1))) vj)) hx hb hts iwsRX12_workFrame_in12 hown hK hP 0 rfl rfl 89 (by decide) (hts _ hm_r_X12_workFrame_4) (fun _ h9 => h9) rfl dX12_workFrame_149 ?_
      refine lv_topi (fun y25 hy25 => ?_)
      obtain rfl : (nI fr) = y25 := (hy25.trans (hfr9)).symm
      refine lv_iconst (v := 1) hx hb dX12_workFrame_152 (by decide) ?_
      refine lv_isub hx hb dX12_workFrame_153 ?_
      refine lv_topi (fun y26 hy26 => ?_)
      obtain rfl : (nI (fr - 1)) = y26 := (hy26.trans (pk_sub (a := fr) (b := 1) (by omega))).symm
      refine va_put (D := (dC, dI)) (ci := 12) (v := .int (nI (fr - 1))) (ty := .int) (C := RX12) (T := TX12) (N := 163) (fs := fM (vS a (fT (fT (fT (fT vi 21 s285_1) 22 p285_1) 82 sp285_1) 81 (nI (pN + 1))) vj)) hx hb hts iwsRX12_workFrame_in12 tyX12 tyX12_ok nmX12 hown hK hP hD hS 0 rfl rfl 89 (by decide) (hts _ hm_r_X12_workFrame_4) (fun _ h9 => h9) rfl (by decide +kernel) rfl rfl (Nat.le_of_ble_eq_true rfl) dX12_workFrame_154 (fun H locs hP hD hS => ?_)
      have hP : va_P (dC, dI) vwCl (WR a k h0 (fT (fT (fT (fT (fT vi 21 s285_1) 22 p285_1) 82 sp285_1) 81 (nI (pN + 1))) 89 (nI (fr - 1))) vj (fT (fT vF 49 (upd f4993_1 ((nI (9 * pN))).toNatClampNeg ((vF 51) xN))) 50 f5093_1) vG) H := fz_w (WR_i 89 _ rfl) hP
      have hD : va_D A (WR a k h0 (fT (fT (fT (fT (fT vi 21 s285_1) 22 p285_1) 82 sp285_1) 81 (nI (pN + 1))) 89 (nI (fr - 1))) vj (fT (fT vF 49 (upd f4993_1 ((nI (9 * pN))).toNatClampNeg ((vF 51) xN))) 50 f5093_1) vG) := fz_wD (WR_i 89 _ rfl) hD
      refine lv_goto (tgt := 357) hx hb dX12_workFrame_157 (by decide) ?_
      refine W.widen (k := 0) (n := 0) (by decide +kernel) (by decide +kernel) ?_
      have e9 : fT (fT (fT (fT (fT (fT vi 21 s285_1) 22 p285_1) 82 sp285_1) 81 (nI (pN + 1))) 89 (nI (fr - 1))) 84 (vi 84) = fT (fT (fT (fT (fT vi 21 s285_1) 22 p285_1) 82 sp285_1) 81 (nI (pN + 1))) 89 (nI (fr - 1)) := fT_id _ _ ((fT_ne _ _ (Nat.ne_of_beq_eq_false rfl)).trans ((fT_ne _ _ (Nat.ne_of_beq_eq_false rfl)).trans ((fT_ne _ _ (Nat.ne_of_beq_eq_false rfl)).trans ((fT_ne _ _ (Nat.ne_of_beq_eq_false rfl)).trans (fT_ne _ _ (Nat.ne_of_beq_eq_false rfl))))))
      have hP := wr_Pi e9 hP
      have hD := wr_Di e9 hD
      clear e9
      have e9 : fT (fT (fT (fT (fT (fT vF 49 (upd f4993_1 ((nI (9 * pN))).toNatClampNeg ((vF 51) xN))) 50 f5093_1) 54 (vF 54)) 53 (vF 53)) 51 (vF 51)) 52 (vF 52) = fT (fT vF 49 (upd f4993_1 ((nI (9 * pN))).toNatClampNeg ((vF 51) xN))) 50 f5093_1 := ch_E vF [upd f4993_1 ((nI (9 * pN))).toNatClampNeg ((vF 51) xN), f5093_1] [(52, 0), (51, 0), (53, 0), (54, 0), (50, 2), (49, 1)] [(50, 2), (49, 1)] [] trivial (by decide +kernel)
      have hP := wr_PF e9 hP
      have hD := wr_DF e9 hD
      clear e9
      exact W.vret hx hb hr (fun t9_ ht hW => ⟨⟨((upd f4993_1 ((nI (9 * pN))).toNatClampNeg ((vF 51) xN)), f5093_1, (vF 51), (vF 52), (vF 53), (vF 54), (fr - 1), (pN + 1), s285_1, p285_1, sp285_1, (vi 84)), rfl, by (try dsimp only); exact ⟨fun v9 h9 => RowU.top (by omega) (RowU.nought f93_1_0 f93_1_1 (fun q h9 => f93_1_2 q (Or.inl h9)) (fun q h9 => f93_1_3 q (Or.inl h9)) hRw (show v9 ≤ pN by omega)) ⟨by (have h8 := hEn xN hx60); omega, by (have h8 := hEn xN hx60); omega⟩, hEn, f85_1_0, f85_1_1, Or.inr (StpO.pop0 hfr1 (by rw [if_pos (by omega)]; omega)), by omega⟩, by rw [ht]; exact hP, hD⟩, hS.F ht⟩) hS.2.2 dX12_workFrame_357
    · have ts_13_1 : ¬ ((kN : Nat) : Int) = 1 := toI_neq s_13_1 (nI_toInt (by omega)) (by decide)
      by_cases s_13_2 : (nI kN) = 2
      · have ts_13_2 : ((kN : Nat) : Int) = 2 := toI_eq s_13_2 (nI_toInt (by omega)) (by decide)
        refine lv_tableIn (off := 147) (tgt := 160) hx hb dX12_workFrame_13 (by rw [s_13_2]; decide) (by rw [s_13_2]; decide) (by rw [s_13_2]; decide) (by decide) ?_
        obtain ⟨hpd9, aN, plN, o1, o2, atN, dN, eN, ⟨m1, m2⟩, ⟨⟨m3, m4⟩, ⟨m5, m6, m7, m8, m9, m10⟩, ⟨m11, m12⟩, m13, m14, _, m20⟩, hNm⟩ := hNd.e2 (by omega)
        obtain ⟨⟨m15, m16⟩, ⟨m17, m18⟩, m19⟩ := hNm.ex m13.1
        refine lv_aload_n hx hb dX12_workFrame_160 rfl (lv_at hl 1 rfl) ?_
        refine lv_iload_n hx hb dX12_workFrame_161 rfl (lv_at hl 2 rfl) ?_
        refine lv_iload_n hx hb dX12_workFrame_162 rfl (lv_at hl 0 rfl) ?_
        have hFc := allFree hD hS hA
        refine va_callv (va_runV (As := [.int (nI fN), .int (nI nN)]) (rest := []) ⟨hx, hb, hml, hown, hts⟩ (r_X12_workName l dC dI a k h0 vi vj vF vG nF V wt dp pd nN kN sN la hN pN rN fN fr aN plN se o1 o2 atN dN eN (by first | with_reducible assumption | decide | omega | rfl | assumption) (by first | with_reducible assumption | decide | omega | rfl | assumption) (by first | with_reducible assumption | decide | omega | rfl | assumption) (by first | with_reducible assumption | decide | omega | rfl | assumption) hfr9 (by first | with_reducible assumption | decide | omega | rfl | assumption) (by first | with_reducible assumption | decide | omega | rfl | assumption) ((congrFun hn30 nN).trans m1) (m2) ((show kN = 2 ∨ kN = 3 by omega)) ((show 2 ≤ kN ∧ kN ≤ 3 by omega)) (fun h9 => (congrFun hn18 aN).trans (m3 h9)) (fun h9 => (congrFun hn24 aN).trans (m4 h9)) (by first | with_reducible assumption | decide | omega | rfl | assumption) (by first | with_reducible assumption | decide | omega | rfl | assumption) (fun h9 => (congrFun hn19 aN).trans (m5 h9)) (fun h9 => (congrFun hn20 aN).trans (m6 h9)) (fun h9 => (congrFun hn21 aN).trans (m7 h9)) (fun h9 => (congrFun hn25 aN).trans (m8 h9)) (fun h9 => (congrFun hn26 aN).trans (m9 h9)) (fun h9 => (congrFun hn27 aN).trans (m10 h9)) (m11) (m12) (m13) (m14) (hPt) (m1) (m5) (hn17.symm) (m20) (fun h9 => ⟨(congrFun hn31 nN).trans (m15 h9).1, (m15 h9).2⟩) (fun h9 => ⟨(congrFun hn32 nN).trans (m16 h9).1, (m16 h9).2⟩) (m17) (m18) (m19) (fun h9 => hla (by omega) h9) hpl (by first | with_reducible assumption | decide | omega | rfl | assumption) (by first | with_reducible assumption | decide | omega | rfl | assumption) (hpd9) (by first | with_reducible assumption | decide | omega | rfl | assumption) (by first | with_reducible assumption | decide | omega | rfl | assumption) s.heap.size) (cwV 2 hts gwsRX12_workFrame_2 rfl rfl rfl hd_yX12_workName_RX12 (by decide +kernel)) (fz_pre (va_recv hK hP (ci := 12) (q0 := 0) rfl rfl) hP hK hD) rfl rfl hl.1 rfl (lv_room (Nat.le_of_ble_eq_true rfl)) dX12_workFrame_163 (by decide +kernel)) hS (fun q _ h => hFc q h) hFc (fun u t9_ H locs ht hvm hw9 hB9 hz1 hk1 hS => ?_)
        revert u hw9 hB9
        refine fz_p10 ?_
        intro g49163 g50163 g52163 g53163 g54163 fr2163 pq2163 s2163 p2163 sp2163 hw9 hB9
        try dsimp only at hw9 hB9
        have hP : va_P (dC, dI) vwCl (WR a k h0 (fT (fT (fT (fT (fT vi 21 s2163) 22 p2163) 82 sp2163) 81 (nI pq2163)) 89 (nI fr2163)) vj (fT (fT (fT (fT (fT vF 53 g53163) 54 g54163) 49 g49163) 50 g50163) 52 g52163) vG) H := fz_P ht hB9.1
        have hD := fz_sd hP (hB9.2.weaken (fun _ q _ h => hFc q.1 h)) rfl
        revert hw9
        refine fz_a5 ?_
        intro f163_0 f163_1 f163_2 f163_3 f163_4
        have f163_2 : s2163 = (vi 21) ∨ 0 < (s2163).toInt := f163_2
        have f163_3 : 0 < (s2163).toInt ∨ StpO nF V wt dp pd nN kN fN hN rN (vF 52) (vF 53) (vF 54) g52163 g53163 g54163 fr2163 pq2163 := f163_3
        refine lv_goto (tgt := 357) hx hb dX12_workFrame_166 (by decide) ?_
        refine W.widen (k := 0) (n := 0) (by decide +kernel) (by decide +kernel) ?_
        have e9 : fT (fT (fT (fT (fT (fT vi 21 s2163) 22 p2163) 82 sp2163) 81 (nI pq2163)) 89 (nI fr2163)) 84 (vi 84) = fT (fT (fT (fT (fT vi 21 s2163) 22 p2163) 82 sp2163) 81 (nI pq2163)) 89 (nI fr2163) := fT_id _ _ ((fT_ne _ _ (Nat.ne_of_beq_eq_false rfl)).trans ((fT_ne _ _ (Nat.ne_of_beq_eq_false rfl)).trans ((fT_ne _ _ (Nat.ne_of_beq_eq_false rfl)).trans ((fT_ne _ _ (Nat.ne_of_beq_eq_false rfl)).trans (fT_ne _ _ (Nat.ne_of_beq_eq_false rfl))))))
        have hP := wr_Pi e9 hP
        have hD := wr_Di e9 hD
        clear e9
        have e9 : fT (fT (fT (fT (fT (fT vF 49 g49163) 50 g50163) 54 g54163) 53 g53163) 51 (vF 51)) 52 g52163 = fT (fT (fT (fT (fT vF 53 g53163) 54 g54163) 49 g49163) 50 g50163) 52 g52163 := ch_E vF [g49163, g50163, g54163, g53163, g52163] [(52, 5), (51, 0), (53, 4), (54, 3), (50, 2), (49, 1)] [(52, 5), (50, 2), (49, 1), (54, 3), (53, 4)] [] trivial (by decide +kernel)
        have hP := wr_PF e9 hP
        have hD := wr_DF e9 hD
        clear e9
        exact W.vret hx hb hr (fun t9_ ht hW => ⟨⟨(g49163, g50163, (vF 51), g52163, g53163, g54163, fr2163, pq2163, s2163, p2163, sp2163, (vi 84)), rfl, by (try dsimp only); exact ⟨f163_0, hEn, f163_1, f163_2, f163_3, f163_4⟩, by rw [ht]; exact hP, hD⟩, hS.F ht⟩) hS.2.2 dX12_workFrame_357
      · have ts_13_2 : ¬ ((kN : Nat) : Int) = 2 := toI_neq s_13_2 (nI_toInt (by omega)) (by decide)
        by_cases s_13_3 : (nI kN) = 3
        · have ts_13_3 : ((kN : Nat) : Int) = 3 := toI_eq s_13_3 (nI_toInt (by omega)) (by decide)
          refine lv_tableIn (off := 147) (tgt := 160) hx hb dX12_workFrame_13 (by rw [s_13_3]; decide) (by rw [s_13_3]; decide) (by rw [s_13_3]; decide) (by decide) ?_
          obtain ⟨hpd9, aN, plN, o1, o2, atN, dN, eN, ⟨m1, m2⟩, ⟨⟨m3, m4⟩, ⟨m5, m6, m7, m8, m9, m10⟩, ⟨m11, m12⟩, m13, m14, _, m20⟩, hNm⟩ := hNd.e2 (by omega)
          obtain ⟨⟨m15, m16⟩, ⟨m17, m18⟩, m19⟩ := hNm.ex m13.1
          refine lv_aload_n hx hb dX12_workFrame_160 rfl (lv_at hl 1 rfl) ?_
          refine lv_iload_n hx hb dX12_workFrame_161 rfl (lv_at hl 2 rfl) ?_
          refine lv_iload_n hx hb dX12_workFrame_162 rfl (lv_at hl 0 rfl) ?_
          have hFc := allFree hD hS hA
          refine va_callv (va_runV (As := [.int (nI fN), .int (nI nN)]) (rest := []) ⟨hx, hb, hml, hown, hts⟩ (r_X12_workName l dC dI a k h0 vi vj vF vG nF V wt dp pd nN kN sN la hN pN rN fN fr aN plN se o1 o2 atN dN eN (by first | with_reducible assumption | decide | omega | rfl | assumption) (by first | with_reducible assumption | decide | omega | rfl | assumption) (by first | with_reducible assumption | decide | omega | rfl | assumption) (by first | with_reducible assumption | decide | omega | rfl | assumption) hfr9 (by first | with_reducible assumption | decide | omega | rfl | assumption) (by first | with_reducible assumption | decide | omega | rfl | assumption) ((congrFun hn30 nN).trans m1) (m2) ((show kN = 2 ∨ kN = 3 by omega)) ((show 2 ≤ kN ∧ kN ≤ 3 by omega)) (fun h9 => (congrFun hn18 aN).trans (m3 h9)) (fun h9 => (congrFun hn24 aN).trans (m4 h9)) (by first | with_reducible assumption | decide | omega | rfl | assumption) (by first | with_reducible assumption | decide | omega | rfl | assumption) (fun h9 => (congrFun hn19 aN).trans (m5 h9)) (fun h9 => (congrFun hn20 aN).trans (m6 h9)) (fun h9 => (congrFun hn21 aN).trans (m7 h9)) (fun h9 => (congrFun hn25 aN).trans (m8 h9)) (fun h9 => (congrFun hn26 aN).trans (m9 h9)) (fun h9 => (congrFun hn27 aN).trans (m10 h9)) (m11) (m12) (m13) (m14) (hPt) (m1) (m5) (hn17.symm) (m20) (fun h9 => ⟨(congrFun hn31 nN).trans (m15 h9).1, (m15 h9).2⟩) (fun h9 => ⟨(congrFun hn32 nN).trans (m16 h9).1, (m16 h9).2⟩) (m17) (m18) (m19) (fun h9 => hla (by omega) h9) hpl (by first | with_reducible assumption | decide | omega | rfl | assumption) (by first | with_reducible assumption | decide | omega | rfl | assumption) (hpd9) (by first | with_reducible assumption | decide | omega | rfl | assumption) (by first | with_reducible assumption | decide | omega | rfl | assumption) s.heap.size) (cwV 2 hts gwsRX12_workFrame_2 rfl rfl rfl hd_yX12_workName_RX12 (by decide +kernel)) (fz_pre (va_recv hK hP (ci := 12) (q0 := 0) rfl rfl) hP hK hD) rfl rfl hl.1 rfl (lv_room (Nat.le_of_ble_eq_true rfl)) dX12_workFrame_163 (by decide +kernel)) hS (fun q _ h => hFc q h) hFc (fun u t9_ H locs ht hvm hw9 hB9 hz1 hk1 hS => ?_)
          revert u hw9 hB9
          refine fz_p10 ?_
          intro g49163_1 g50163_1 g52163_1 g53163_1 g54163_1 fr2163_1 pq2163_1 s2163_1 p2163_1 sp2163_1 hw9 hB9
          try dsimp only at hw9 hB9
          have hP : va_P (dC, dI) vwCl (WR a k h0 (fT (fT (fT (fT (fT vi 21 s2163_1) 22 p2163_1) 82 sp2163_1) 81 (nI pq2163_1)) 89 (nI fr2163_1)) vj (fT (fT (fT (fT (fT vF 53 g53163_1) 54 g54163_1) 49 g49163_1) 50 g50163_1) 52 g52163_1) vG) H := fz_P ht hB9.1
          have hD := fz_sd hP (hB9.2.weaken (fun _ q _ h => hFc q.1 h)) rfl
          revert hw9
          refine fz_a5 ?_
          intro f163_1_0 f163_1_1 f163_1_2 f163_1_3 f163_1_4
          have f163_1_2 : s2163_1 = (vi 21) ∨ 0 < (s2163_1).toInt := f163_1_2
          have f163_1_3 : 0 < (s2163_1).toInt ∨ StpO nF V wt dp pd nN kN fN hN rN (vF 52) (vF 53) (vF 54) g52163_1 g53163_1 g54163_1 fr2163_1 pq2163_1 := f163_1_3
          refine lv_goto (tgt := 357) hx hb dX12_workFrame_166 (by decide) ?_
          refine W.widen (k := 0) (n := 0) (by decide +kernel) (by decide +kernel) ?_
          have e9 : fT (fT (fT (fT (fT (fT vi 21 s2163_1) 22 p2163_1) 82 sp2163_1) 81 (nI pq2163_1)) 89 (nI fr2163_1)) 84 (vi 84) = fT (fT (fT (fT (fT vi 21 s2163_1) 22 p2163_1) 82 sp2163_1) 81 (nI pq2163_1)) 89 (nI fr2163_1) := fT_id _ _ ((fT_ne _ _ (Nat.ne_of_beq_eq_false rfl)).trans ((fT_ne _ _ (Nat.ne_of_beq_eq_false rfl)).trans ((fT_ne _ _ (Nat.ne_of_beq_eq_false rfl)).trans ((fT_ne _ _ (Nat.ne_of_beq_eq_false rfl)).trans (fT_ne _ _ (Nat.ne_of_beq_eq_false rfl))))))
          have hP := wr_Pi e9 hP
          have hD := wr_Di e9 hD
          clear e9
          have e9 : fT (fT (fT (fT (fT (fT vF 49 g49163_1) 50 g50163_1) 54 g54163_1) 53 g53163_1) 51 (vF 51)) 52 g52163_1 = fT (fT (fT (fT (fT vF 53 g53163_1) 54 g54163_1) 49 g49163_1) 50 g50163_1) 52 g52163_1 := ch_E vF [g49163_1, g50163_1, g54163_1, g53163_1, g52163_1] [(52, 5), (51, 0), (53, 4), (54, 3), (50, 2), (49, 1)] [(52, 5), (50, 2), (49, 1), (54, 3), (53, 4)] [] trivial (by decide +kernel)
          have hP := wr_PF e9 hP
          have hD := wr_DF e9 hD
          clear e9
          exact W.vret hx hb hr (fun t9_ ht hW => ⟨⟨(g49163_1, g50163_1, (vF 51), g52163_1, g53163_1, g54163_1, fr2163_1, pq2163_1, s2163_1, p2163_1, sp2163_1, (vi 84)), rfl, by (try dsimp only); exact ⟨f163_1_0, hEn, f163_1_1, f163_1_2, f163_1_3, f163_1_4⟩, by rw [ht]; exact hP, hD⟩, hS.F ht⟩) hS.2.2 dX12_workFrame_357
        · have ts_13_3 : ¬ ((kN : Nat) : Int) = 3 := toI_neq s_13_3 (nI_toInt (by omega)) (by decide)
          by_cases s_13_4 : (nI kN) = 4
          · have ts_13_4 : ((kN : Nat) : Int) = 4 := toI_eq s_13_4 (nI_toInt (by omega)) (by decide)
            refine lv_tableIn (off := 156) (tgt := 169) hx hb dX12_workFrame_13 (by rw [s_13_4]; decide) (by rw [s_13_4]; decide) (by rw [s_13_4]; decide) (by decide) ?_
            obtain ⟨hpd9, cN, hc4, hwN9⟩ := hNd.e4 (by omega)
            have hsd := hTo.minus (by omega)
            have hq1 := hc4.2.2.2.1
            refine lv_aload_n hx hb dX12_workFrame_169 rfl (lv_at hl 1 rfl) ?_
            refine va_get (D := (dC, dI)) (ci := 12) (v := .ref (a 53)) (C := RX12) (T := TX12) (N := 163) (fs := fM (vS a vi vj)) hx hb hts iwsRX12_workFrame_in12 hown hK hP 0 rfl rfl 86 (by decide) (hts _ hm_r_X12_workFrame_5) (fun _ h9 => h9) rfl dX12_workFrame_170 ?_
            refine lv_iload_n hx hb dX12_workFrame_173 rfl (lv_at hl 2 rfl) ?_
            refine va_iald (cA := k 53) (n := 4300) (f := (vF 53)) hx hb hK hP 54 53 (WR_get 53 (by decide)) (TR_get 53 (by decide)) (vp_in_nI (show fN < 4300 by omega) (by omega)) dX12_workFrame_174 ?_
            refine lv_topi (fun y27 hy27 => ?_)
            obtain rfl : ((vF 53) fN) = y27 := (hy27.trans (by rw [nI_clamp (by omega)])).symm
            refine lv_topi (fun y28 hy28 => ?_)
            obtain rfl : (nI sN) = y28 := (hy28.trans (hsN)).symm
            refine lv_if_ne (tgt := 202) hx hb dX12_workFrame_175 (by decide) (fun c_175 => ?_) (fun c_175 => ?_)
            · have t_175 : ((sN : Nat) : Int) ≠ 0 := toI_ne c_175 (nI_toInt (by omega)) (by decide)
              refine lv_iconst (v := 0) hx hb dX12_workFrame_202 (by decide) ?_
              refine lv_istore_n hx hb dX12_workFrame_203 rfl hl (by decide) rfl (fun ls (hl : lv_has ls _ ([(3, .int 0), (2, .int (nI nN)), (0, .ref h0), (1, .int (nI fN))])) => ?_)
              have e9 : fT vF 49 (vF 49) = vF := by funext q9; by_cases h9_49 : q9 = 49; (subst h9_49; exact (fT_eq _ _ _).trans (Eq.trans (by first | with_reducible rfl | with_reducible assumption | (symm; with_reducible assumption) | rfl | assumption | (symm; assumption) | (subst_vars; rfl)) (Eq.refl _).symm)); exact (fT_ne _ _ h9_49).trans (Eq.refl _).symm
              have hP := wr_PF e9 hP
              have hD := wr_DF e9 hD
              clear e9
              have hl : lv_has _ _ ([(0, .ref h0), (1, .int (nI fN)), (2, .int (nI nN)), (3, .int (nI 0))]) := lv_sub hl [2, 3, 1, 0] rfl
              refine (fun (loop : ∀ (n9 : Nat) (k5 : Nat) (x49 : Nat → Int32) (H : Heap) (locs : List Loc) (ls : Array Slot), (k5 ≤ 9) → (∀ v9, v9 < pN → RowU x49 (vF 50) v9) →  (9 < k5 + n9) → va_P (dC, dI) vwCl (WR a k h0 vi vj (fT vF 49 x49) vG) H → va_D A (WR a k h0 vi vj (fT vF 49 x49) vG) → va_S A s.heap H locs → lv_has ls 4 [(0, .ref h0), (1, .int (nI fN)), (2, .int (nI nN)), (3, .int (nI k5))] → W p l e _ s m _ below meth c H locs 0 0 _ (F0 m 204 ls [])) => loop (10) 0 (vF 49) _ _ _ (by omega) (hRw) (by omega) hP hD hS hl) ?_
              intro n9
              induction n9 with
              | zero => intro k5 x49 H locs ls hk5 hrx hf9; exact False.elim (by omega)
              | succ n9 ih204 =>
                intro k5 x49 H locs ls hk5 hrx hf204 hP hD hS hl
                refine lv_iload_n hx hb dX12_workFrame_204 rfl (lv_at hl 3 rfl) ?_
                refine lv_bipush (v := 9) hx hb dX12_workFrame_205 (by decide) ?_
                refine lv_icmp_ge (tgt := 249) hx hb dX12_workFrame_207 (by decide) (fun c_207 => ?_) (fun c_207 => ?_)
                · have t_207 : ((k5 : Nat) : Int) ≥ 9 := toI_ge c_207 (nI_toInt (by omega)) (by decide)
                  refine lv_aload_n hx hb dX12_workFrame_249 rfl (lv_at hl 0 rfl) ?_
                  refine lv_dup hx hb dX12_workFrame_250 rfl ?_
                  refine va_get (D := (dC, dI)) (ci := 12) (v := .int (vi 89)) (C := RX12) (T := TX12) (N := 163) (fs := fM (vS a vi vj)) hx hb hts iwsRX12_workFrame_in12 hown hK hP 0 rfl rfl 89 (by decide) (hts _ hm_r_X12_workFrame_4) (fun _ h9 => h9) rfl dX12_workFrame_251 ?_
                  refine lv_topi (fun y29 hy29 => ?_)
                  obtain rfl : (nI fr) = y29 := (hy29.trans (hfr9)).symm
                  refine lv_iconst (v := 1) hx hb dX12_workFrame_254 (by decide) ?_
                  refine lv_isub hx hb dX12_workFrame_255 ?_
                  refine lv_topi (fun y30 hy30 => ?_)
                  obtain rfl : (nI (fr - 1)) = y30 := (hy30.trans (pk_sub (a := fr) (b := 1) (by omega))).symm
                  refine va_put (D := (dC, dI)) (ci := 12) (v := .int (nI (fr - 1))) (ty := .int) (C := RX12) (T := TX12) (N := 163) (fs := fM (vS a vi vj)) hx hb hts iwsRX12_workFrame_in12 tyX12 tyX12_ok nmX12 hown hK hP hD hS 0 rfl rfl 89 (by decide) (hts _ hm_r_X12_workFrame_4) (fun _ h9 => h9) rfl (by decide +kernel) rfl rfl (Nat.le_of_ble_eq_true rfl) dX12_workFrame_256 (fun H locs hP hD hS => ?_)
                  have hP : va_P (dC, dI) vwCl (WR a k h0 (fT vi 89 (nI (fr - 1))) vj (fT vF 49 x49) vG) H := fz_w (WR_i 89 _ rfl) hP
                  have hD : va_D A (WR a k h0 (fT vi 89 (nI (fr - 1))) vj (fT vF 49 x49) vG) := fz_wD (WR_i 89 _ rfl) hD
                  refine lv_goto (tgt := 357) hx hb dX12_workFrame_259 (by decide) ?_
                  refine W.widen (k := 0) (n := 0) (by decide +kernel) (by decide +kernel) ?_
                  have e9 : fT (fT (fT (fT (fT (fT vi 21 (vi 21)) 22 (vi 22)) 82 (vi 82)) 81 (nI pN)) 89 (nI (fr - 1))) 84 (vi 84) = fT vi 89 (nI (fr - 1)) := ch_E vi [nI pN, nI (fr - 1)] [(84, 0), (89, 2), (81, 1), (82, 0), (22, 0), (21, 0)] [(89, 2)] [81] ⟨show nI pN = vi 81 from (by first | with_reducible rfl | with_reducible assumption | (symm; with_reducible assumption) | rfl | assumption | (symm; assumption) | (subst_vars; rfl)), trivial⟩ (by decide +kernel)
                  have hP := wr_Pi e9 hP
                  have hD := wr_Di e9 hD
                  clear e9
                  have e9 : fT (fT (fT (fT (fT (fT vF 49 x49) 50 (vF 50)) 54 (vF 54)) 53 (vF 53)) 51 (vF 51)) 52 (vF 52) = fT vF 49 x49 := ch_E vF [x49] [(52, 0), (51, 0), (53, 0), (54, 0), (50, 0), (49, 1)] [(49, 1)] [] trivial (by decide +kernel)
                  have hP := wr_PF e9 hP
                  have hD := wr_DF e9 hD
                  clear e9
                  exact W.vret hx hb hr (fun t9_ ht hW => ⟨⟨(x49, (vF 50), (vF 51), (vF 52), (vF 53), (vF 54), (fr - 1), pN, (vi 21), (vi 22), (vi 82), (vi 84)), rfl, by (try dsimp only); exact ⟨hrx, hEn, hst0, Or.inl rfl, Or.inr (StpO.pop0 hfr1 (by rw [if_pos (by omega)]; omega)), by omega⟩, by rw [ht]; exact hP, hD⟩, hS.F ht⟩) hS.2.2 dX12_workFrame_357
                · have t_207 : ¬ ((k5 : Nat) : Int) ≥ 9 := toI_nge c_207 (nI_toInt (by omega)) (by decide)
                  refine lv_aload_n hx hb dX12_workFrame_210 rfl (lv_at hl 0 rfl) ?_
                  refine va_get (D := (dC, dI)) (ci := 12) (v := .ref (a 49)) (C := RX12) (T := TX12) (N := 163) (fs := fM (vS a vi vj)) hx hb hts iwsRX12_workFrame_in12 hown hK hP 0 rfl rfl 78 (by decide) (hts _ hm_r_X12_workFrame_2) (fun _ h9 => h9) rfl dX12_workFrame_211 ?_
                  refine lv_bipush (v := 9) hx hb dX12_workFrame_214 (by decide) ?_
                  refine lv_aload_n hx hb dX12_workFrame_216 rfl (lv_at hl 0 rfl) ?_
                  refine va_get (D := (dC, dI)) (ci := 12) (v := .int (vi 81)) (C := RX12) (T := TX12) (N := 163) (fs := fM (vS a vi vj)) hx hb hts iwsRX12_workFrame_in12 hown hK hP 0 rfl rfl 81 (by decide) (hts _ hm_r_X12_workFrame_1) (fun _ h9 => h9) rfl dX12_workFrame_217 ?_
                  refine lv_topi (fun y31 hy31 => ?_)
                  obtain rfl : (nI pN) = y31 := (hy31.trans (hpl)).symm
                  refine lv_iconst (v := 1) hx hb dX12_workFrame_220 (by decide) ?_
                  refine lv_isub hx hb dX12_workFrame_221 ?_
                  refine lv_topi (fun y32 hy32 => ?_)
                  obtain rfl : (nI (pN - 1)) = y32 := (hy32.trans (pk_sub (a := pN) (b := 1) (by omega))).symm
                  refine lv_imul hx hb dX12_workFrame_222 ?_
                  refine lv_topi (fun y33 hy33 => ?_)
                  obtain rfl : (nI (9 * (pN - 1))) = y33 := (hy33.trans (pk_mul 9 (pN - 1))).symm
                  refine lv_iload_n hx hb dX12_workFrame_223 rfl (lv_at hl 3 rfl) ?_
                  refine lv_iadd hx hb dX12_workFrame_224 ?_
                  refine lv_topi (fun y34 hy34 => ?_)
                  obtain rfl : (nI ((9 * (pN - 1)) + k5)) = y34 := (hy34.trans (nI_add (9 * (pN - 1)) k5)).symm
                  refine lv_aload_n hx hb dX12_workFrame_225 rfl (lv_at hl 0 rfl) ?_
                  refine va_get (D := (dC, dI)) (ci := 12) (v := .ref (a 49)) (C := RX12) (T := TX12) (N := 163) (fs := fM (vS a vi vj)) hx hb hts iwsRX12_workFrame_in12 hown hK hP 0 rfl rfl 78 (by decide) (hts _ hm_r_X12_workFrame_2) (fun _ h9 => h9) rfl dX12_workFrame_226 ?_
                  refine lv_bipush (v := 9) hx hb dX12_workFrame_229 (by decide) ?_
                  refine lv_aload_n hx hb dX12_workFrame_231 rfl (lv_at hl 0 rfl) ?_
                  refine va_get (D := (dC, dI)) (ci := 12) (v := .int (vi 81)) (C := RX12) (T := TX12) (N := 163) (fs := fM (vS a vi vj)) hx hb hts iwsRX12_workFrame_in12 hown hK hP 0 rfl rfl 81 (by decide) (hts _ hm_r_X12_workFrame_1) (fun _ h9 => h9) rfl dX12_workFrame_232 ?_
                  refine lv_topi (fun y35 hy35 => ?_)
                  obtain rfl : (nI pN) = y35 := (hy35.trans (hpl)).symm
                  refine lv_iconst (v := 1) hx hb dX12_workFrame_235 (by decide) ?_
                  refine lv_isub hx hb dX12_workFrame_236 ?_
                  refine lv_topi (fun y36 hy36 => ?_)
                  obtain rfl : (nI (pN - 1)) = y36 := (hy36.trans (pk_sub (a := pN) (b := 1) (by omega))).symm
                  refine lv_imul hx hb dX12_workFrame_237 ?_
                  refine lv_topi (fun y37 hy37 => ?_)
                  obtain rfl : (nI (9 * (pN - 1))) = y37 := (hy37.trans (pk_mul 9 (pN - 1))).symm
                  refine lv_iload_n hx hb dX12_workFrame_238 rfl (lv_at hl 3 rfl) ?_
                  refine lv_iadd hx hb dX12_workFrame_239 ?_
                  refine lv_topi (fun y38 hy38 => ?_)
                  obtain rfl : (nI ((9 * (pN - 1)) + k5)) = y38 := (hy38.trans (nI_add (9 * (pN - 1)) k5)).symm
                  refine va_iald (cA := k 49) (n := 900) (f := x49) hx hb hK hP 50 49 (WR_get 49 (by decide)) (TR_get 49 (by decide)) (vp_in_nI (show ((9 * (pN - 1)) + k5) < 900 by omega) (by omega)) dX12_workFrame_240 ?_
                  refine lv_topi (fun y39 hy39 => ?_)
                  obtain rfl : (x49 ((9 * (pN - 1)) + k5)) = y39 := (hy39.trans (by rw [nI_clamp (by omega)])).symm
                  refine lv_ineg hx hb dX12_workFrame_241 ?_
                  refine va_iast (cA := k 49) (n := 900) (f := x49) hx hb hK hP hD hS 50 49 (WR_get 49 (by decide)) (TR_get 49 (by decide)) (vp_in_nI (show ((9 * (pN - 1)) + k5) < 900 by omega) (by omega)) dX12_workFrame_242 (fun H locs hP hD hS => ?_)
                  have e9 : fT vF 49 (upd x49 ((nI ((9 * (pN - 1)) + k5))).toNatClampNeg (-(x49 ((9 * (pN - 1)) + k5)))) = fT (fT vF 49 x49) 49 (upd x49 ((nI ((9 * (pN - 1)) + k5))).toNatClampNeg (-(x49 ((9 * (pN - 1)) + k5)))) := (fT_sm _ _ _ _).symm
                  have hP := wr_PF e9 (fz_w (WR_F 49 (by decide) _ rfl) hP)
                  have hD := wr_DF e9 (fz_wD (WR_F 49 (by decide) _ rfl) hD)
                  clear e9
                  refine lv_iinc (v := (nI (k5 + 1))) hx hb dX12_workFrame_243 hl (k := 3) rfl (nI_add k5 1) (by decide) rfl (fun ls (hl : lv_has ls _ ([(3, .int (nI (k5 + 1))), (0, .ref h0), (1, .int (nI fN)), (2, .int (nI nN))])) => ?_)
                  refine lv_goto (tgt := 204) hx hb dX12_workFrame_246 (by decide) ?_
                  have hl : lv_has _ _ ([(0, .ref h0), (1, .int (nI fN)), (2, .int (nI nN)), (3, .int (nI (k5 + 1)))]) := lv_sub hl [1, 2, 3, 0] rfl
                  exact ih204 (k5 + 1) (upd x49 ((nI ((9 * (pN - 1)) + k5))).toNatClampNeg (-(x49 ((9 * (pN - 1)) + k5)))) _ _ _ (by omega) (fun v9 h9 => RowU.top (by omega) (hrx v9 h9) (by (have h8 := hrx (pN - 1) (by omega) k5 (by omega)); exact neg_2m h8.1 h8.2.1)) (by omega) hP hD hS hl
            · have t_175 : ((sN : Nat) : Int) = 0 := toI_nne c_175 (nI_toInt (by omega)) (by decide)
              refine lv_aload_n hx hb dX12_workFrame_178 rfl (lv_at hl 1 rfl) ?_
              have hFc := allFree hD hS hA
              refine va_callv (va_runV (As := []) (rest := []) ⟨hx, hb, hml, hown, hts⟩ (r_X12_stepOne l dC dI a k h0 vi vj vF vG (by first | with_reducible assumption | decide | omega | rfl | assumption) s.heap.size) (cwV 0 hts gwsRX12_workFrame_0 rfl rfl rfl hd_yX12_stepOne_RX12 (by decide +kernel)) (fz_pre (va_recv hK hP (ci := 12) (q0 := 0) rfl rfl) hP hK hD) rfl rfl hl.1 rfl (lv_room (Nat.le_of_ble_eq_true rfl)) dX12_workFrame_179 (by decide +kernel)) hS (fun q _ h => hFc q h) hFc (fun u t9_ H locs ht hvm hw9 hB9 hz1 hk1 hS => ?_)
              revert u hw9 hB9
              refine fz_p3 ?_
              intro s2179 p2179 sp2179 hw9 hB9
              try dsimp only at hw9 hB9
              have hP : va_P (dC, dI) vwCl (WR a k h0 (fT (fT (fT vi 21 s2179) 22 p2179) 82 sp2179) vj vF vG) H := fz_P ht hB9.1
              have hD := fz_sd hP (hB9.2.weaken (fun _ q _ h => hFc q.1 h)) rfl
              revert hw9
              refine fz_a2 ?_
              intro f179_0 f179_1
              have f179_1 : s2179 = (vi 21) ∨ 0 < (s2179).toInt := f179_1
              refine lv_aload_n hx hb dX12_workFrame_182 rfl (lv_at hl 1 rfl) ?_
              refine va_get (D := (dC, dI)) (ci := 12) (v := .ref (a 53)) (C := RX12) (T := TX12) (N := 163) (fs := fM (vS a (fT (fT (fT vi 21 s2179) 22 p2179) 82 sp2179) vj)) hx hb hts iwsRX12_workFrame_in12 hown hK hP 0 rfl rfl 86 (by decide) (hts _ hm_r_X12_workFrame_5) (fun _ h9 => h9) rfl dX12_workFrame_183 ?_
              refine lv_iload_n hx hb dX12_workFrame_186 rfl (lv_at hl 2 rfl) ?_
              refine lv_iconst (v := 1) hx hb dX12_workFrame_187 (by decide) ?_
              refine va_iast (cA := k 53) (n := 4300) (f := (vF 53)) hx hb hK hP hD hS 54 53 (WR_get 53 (by decide)) (TR_get 53 (by decide)) (vp_in_nI (show fN < 4300 by omega) (by omega)) dX12_workFrame_188 (fun H locs hP hD hS => ?_)
              have hP : va_P (dC, dI) vwCl (WR a k h0 (fT (fT (fT vi 21 s2179) 22 p2179) 82 sp2179) vj (fT vF 53 (upd (vF 53) ((nI fN)).toNatClampNeg 1)) vG) H := fz_w (WR_F 53 (by decide) _ rfl) hP
              have hD : va_D A (WR a k h0 (fT (fT (fT vi 21 s2179) 22 p2179) 82 sp2179) vj (fT vF 53 (upd (vF 53) ((nI fN)).toNatClampNeg 1)) vG) := fz_wD (WR_F 53 (by decide) _ rfl) hD
              refine lv_aload_n hx hb dX12_workFrame_189 rfl (lv_at hl 1 rfl) ?_
              refine lv_aload_n hx hb dX12_workFrame_190 rfl (lv_at hl 1 rfl) ?_
              refine va_get (D := (dC, dI)) (ci := 12) (v := .ref (a 30)) (C := RX12) (T := TX12) (N := 163) (fs := fM (vS a (fT (fT (fT vi 21 s2179) 22 p2179) 82 sp2179) vj)) hx hb hts iwsRX12_workFrame_in12 hown hK hP 0 rfl rfl 54 (by decide) (hts _ hm_r_X12_workFrame_3) (fun _ h9 => h9) rfl dX12_workFrame_191 ?_
              refine lv_iload_n hx hb dX12_workFrame_194 rfl (lv_at hl 0 rfl) ?_
              refine va_iald (cA := k 30) (n := 4200) (f := (vF 30)) hx hb hK hP 31 30 (WR_get 30 (by decide)) (TR_get 30 (by decide)) (vp_in_nI (show nN < 4200 by omega) (by omega)) dX12_workFrame_195 ?_
              refine lv_topi (fun y40 hy40 => ?_)
              obtain rfl : ((vF 30) nN) = y40 := (hy40.trans (by rw [nI_clamp (by omega)])).symm
              refine lv_topi (fun y41 hy41 => ?_)
              obtain rfl : (nI cN) = y41 := (hy41.trans ((congrFun hn30 nN).trans hc4.1.1)).symm
              have hFc := allFree hD hS hA
              refine va_callv (va_runV (As := [.int (nI cN)]) (rest := []) ⟨hx, hb, hml, hown, hts⟩ (r_X12_call l dC dI a k h0 (fT (fT (fT vi 21 s2179) 22 p2179) 82 sp2179) vj (fT vF 53 (upd (vF 53) ((nI fN)).toNatClampNeg 1)) vG (nI cN) fr hfr9 (by first | with_reducible assumption | decide | omega | rfl | assumption) H.size) (cwV 1 hts gwsRX12_workFrame_3 rfl rfl rfl hd_yX12_call_RX12 (by decide +kernel)) (fz_pre (va_recv hK hP (ci := 12) (q0 := 0) rfl rfl) hP hK hD) rfl rfl hl.1 rfl (lv_room (Nat.le_of_ble_eq_true rfl)) dX12_workFrame_196 (by decide +kernel)) hS (fun q _ h => hFc q h) hFc (fun u t9_ H locs ht hvm hw9 hB9 hz1 hk1 hS => ?_)
              have e9F : fT (fT vF 53 (upd (upd (vF 53) ((nI fN)).toNatClampNeg 1) (nI fr).toNatClampNeg 0)) 52 (upd (vF 52) (nI fr).toNatClampNeg (nI cN)) = fT (fT (fT vF 53 (upd (vF 53) ((nI fN)).toNatClampNeg 1)) 52 (upd (vF 52) (nI fr).toNatClampNeg (nI cN))) 53 (upd (upd (vF 53) ((nI fN)).toNatClampNeg 1) (nI fr).toNatClampNeg 0) := ((fT_sw _ _ _ (Nat.ne_of_beq_eq_false rfl)).trans (congrArg (fun g9 => fT g9 52 (upd (vF 52) (nI fr).toNatClampNeg (nI cN))) (fT_sm _ _ _ _))).symm
              have hP := wr_PF e9F (fz_P ht hB9.1)
              have hD := wr_DF e9F (hB9.2.weaken (fun _ q _ h => hFc q.1 h))
              clear e9F
              refine lv_goto (tgt := 357) hx hb dX12_workFrame_199 (by decide) ?_
              refine W.widen (k := 0) (n := 0) (by decide +kernel) (by decide +kernel) ?_
              have e9 : fT (fT (fT (fT (fT (fT vi 21 s2179) 22 p2179) 82 sp2179) 81 (nI pN)) 89 (nI (fr + 1))) 84 (vi 84) = fT (fT (fT (fT vi 21 s2179) 22 p2179) 82 sp2179) 89 (nI (fr + 1)) := ch_E vi [s2179, p2179, sp2179, nI pN, nI (fr + 1)] [(84, 0), (89, 5), (81, 4), (82, 3), (22, 2), (21, 1)] [(89, 5), (82, 3), (22, 2), (21, 1)] [81] ⟨show nI pN = vi 81 from (by first | with_reducible rfl | with_reducible assumption | (symm; with_reducible assumption) | rfl | assumption | (symm; assumption) | (subst_vars; rfl)), trivial⟩ (by decide +kernel)
              have hP := wr_Pi e9 hP
              have hD := wr_Di e9 hD
              clear e9
              have e9 : fT (fT (fT (fT (fT (fT vF 49 (vF 49)) 50 (vF 50)) 54 (vF 54)) 53 (upd (upd (vF 53) ((nI fN)).toNatClampNeg 1) (nI fr).toNatClampNeg 0)) 51 (vF 51)) 52 (upd (vF 52) (nI fr).toNatClampNeg (nI cN)) = fT (fT vF 53 (upd (upd (vF 53) ((nI fN)).toNatClampNeg 1) (nI fr).toNatClampNeg 0)) 52 (upd (vF 52) (nI fr).toNatClampNeg (nI cN)) := ch_E vF [upd (upd (vF 53) ((nI fN)).toNatClampNeg 1) (nI fr).toNatClampNeg 0, upd (vF 52) (nI fr).toNatClampNeg (nI cN)] [(52, 2), (51, 0), (53, 1), (54, 0), (50, 0), (49, 0)] [(52, 2), (53, 1)] [] trivial (by decide +kernel)
              have hP := wr_PF e9 hP
              have hD := wr_DF e9 hD
              clear e9
              exact W.vret hx hb hr (fun t9_ ht hW => ⟨⟨((vF 49), (vF 50), (vF 51), (upd (vF 52) (nI fr).toNatClampNeg (nI cN)), (upd (upd (vF 53) ((nI fN)).toNatClampNeg 1) (nI fr).toNatClampNeg 0), (vF 54), (fr + 1), pN, s2179, p2179, sp2179, (vi 84)), rfl, by (try dsimp only); exact ⟨hRw, hEn, f179_0, f179_1, Or.inr (by (obtain rfl : sN = 0 := by omega); (obtain rfl : kN = 4 := by omega); (obtain rfl : pN = hN := by omega); exact StpO.push' cN 1 la 1 rfl rfl hfN hfr1 (fun _ _ => rfl) (fun h9 => absurd h9 (by omega)) hc4.2.1 hc4.2.2.1 (by omega) (WtO.m1 hc4.2.2.2.2 (Nat.le_refl _)) (by omega)), by omega⟩, by rw [ht]; exact hP, hD⟩, hS.F ht⟩) hS.2.2 dX12_workFrame_357
          · have ts_13_4 : ¬ ((kN : Nat) : Int) = 4 := toI_neq s_13_4 (nI_toInt (by omega)) (by decide)
            by_cases s_13_5 : (nI kN) = 5
            · have ts_13_5 : ((kN : Nat) : Int) = 5 := toI_eq s_13_5 (nI_toInt (by omega)) (by decide)
              refine lv_tableIn (off := 338) (tgt := 351) hx hb dX12_workFrame_13 (by rw [s_13_5]; decide) (by rw [s_13_5]; decide) (by rw [s_13_5]; decide) (by decide) ?_
              obtain ⟨hpd9, cN, dN, hcT, hdT, hwN9⟩ := hNd.e5 (by omega)
              refine lv_aload_n hx hb dX12_workFrame_351 rfl (lv_at hl 1 rfl) ?_
              refine lv_iload_n hx hb dX12_workFrame_352 rfl (lv_at hl 2 rfl) ?_
              refine lv_iload_n hx hb dX12_workFrame_353 rfl (lv_at hl 0 rfl) ?_
              have hFc := allFree hD hS hA
              refine va_callv (va_runV (As := [.int (nI fN), .int (nI nN)]) (rest := []) ⟨hx, hb, hml, hown, hts⟩ (r_X12_workPair l dC dI a k h0 vi vj vF vG nF V wt dp pd nN kN sN la hN pN rN fN fr cN dN (by first | with_reducible assumption | decide | omega | rfl | assumption) (by first | with_reducible assumption | decide | omega | rfl | assumption) (by first | with_reducible assumption | decide | omega | rfl | assumption) (by first | with_reducible assumption | decide | omega | rfl | assumption) hfr9 (by first | with_reducible assumption | decide | omega | rfl | assumption) (by first | with_reducible assumption | decide | omega | rfl | assumption) ((congrFun hn30 nN).trans hcT.1.1) ((congrFun hn31 nN).trans hdT.1.1) (hcT) (hdT) (hwN9) ((show (5 ≤ kN ∧ kN ≤ 8) ∨ kN = 13 by omega)) ((by omega)) hpl (by first | with_reducible assumption | decide | omega | rfl | assumption) ((by omega)) (hpd9) (by first | with_reducible assumption | decide | omega | rfl | assumption) s.heap.size) (cwV 2 hts gwsRX12_workFrame_4 rfl rfl rfl hd_yX12_workPair_RX12 (by decide +kernel)) (fz_pre (va_recv hK hP (ci := 12) (q0 := 0) rfl rfl) hP hK hD) rfl rfl hl.1 rfl (lv_room (Nat.le_of_ble_eq_true rfl)) dX12_workFrame_354 (by decide +kernel)) hS (fun q _ h => hFc q h) hFc (fun u t9_ H locs ht hvm hw9 hB9 hz1 hk1 hS => ?_)
              revert u hw9 hB9
              refine fz_p9 ?_
              intro g49354 g50354 g52354 g53354 fr2354 pq2354 s2354 p2354 sp2354 hw9 hB9
              try dsimp only at hw9 hB9
              have hP : va_P (dC, dI) vwCl (WR a k h0 (fT (fT (fT (fT (fT vi 21 s2354) 22 p2354) 81 (nI pq2354)) 89 (nI fr2354)) 82 sp2354) vj (fT (fT (fT (fT vF 53 g53354) 49 g49354) 50 g50354) 52 g52354) vG) H := fz_P ht hB9.1
              have hD := fz_sd hP (hB9.2.weaken (fun _ q _ h => hFc q.1 h)) rfl
              revert hw9
              refine fz_a4 ?_
              intro f354_0 f354_1 f354_2 f354_3
              have f354_2 : s2354 = (vi 21) ∨ 0 < (s2354).toInt := f354_2
              have f354_3 : StpO nF V wt dp pd nN kN fN hN rN (vF 52) (vF 53) (vF 54) g52354 g53354 (vF 54) fr2354 pq2354 := f354_3
              refine W.widen (k := 0) (n := 0) (by decide +kernel) (by decide +kernel) ?_
              have e9 : fT (fT (fT (fT (fT (fT vi 21 s2354) 22 p2354) 82 sp2354) 81 (nI pq2354)) 89 (nI fr2354)) 84 (vi 84) = fT (fT (fT (fT (fT vi 21 s2354) 22 p2354) 81 (nI pq2354)) 89 (nI fr2354)) 82 sp2354 := ch_E vi [s2354, p2354, sp2354, nI pq2354, nI fr2354] [(84, 0), (89, 5), (81, 4), (82, 3), (22, 2), (21, 1)] [(82, 3), (89, 5), (81, 4), (22, 2), (21, 1)] [] trivial (by decide +kernel)
              have hP := wr_Pi e9 hP
              have hD := wr_Di e9 hD
              clear e9
              have e9 : fT (fT (fT (fT (fT (fT vF 49 g49354) 50 g50354) 54 (vF 54)) 53 g53354) 51 (vF 51)) 52 g52354 = fT (fT (fT (fT vF 53 g53354) 49 g49354) 50 g50354) 52 g52354 := ch_E vF [g49354, g50354, g53354, g52354] [(52, 4), (51, 0), (53, 3), (54, 0), (50, 2), (49, 1)] [(52, 4), (50, 2), (49, 1), (53, 3)] [] trivial (by decide +kernel)
              have hP := wr_PF e9 hP
              have hD := wr_DF e9 hD
              clear e9
              exact W.vret hx hb hr (fun t9_ ht hW => ⟨⟨(g49354, g50354, (vF 51), g52354, g53354, (vF 54), fr2354, pq2354, s2354, p2354, sp2354, (vi 84)), rfl, by (try dsimp only); exact ⟨f354_0, hEn, f354_1, f354_2, Or.inr f354_3, by (have h9 := f354_3.fr); omega⟩, by rw [ht]; exact hP, hD⟩, hS.F ht⟩) hS.2.2 dX12_workFrame_357
            · have ts_13_5 : ¬ ((kN : Nat) : Int) = 5 := toI_neq s_13_5 (nI_toInt (by omega)) (by decide)
              by_cases s_13_6 : (nI kN) = 6
              · have ts_13_6 : ((kN : Nat) : Int) = 6 := toI_eq s_13_6 (nI_toInt (by omega)) (by decide)
                refine lv_tableIn (off := 338) (tgt := 351) hx hb dX12_workFrame_13 (by rw [s_13_6]; decide) (by rw [s_13_6]; decide) (by rw [s_13_6]; decide) (by decide) ?_
                obtain ⟨hpd9, cN, dN, hcT, hdT, hwN9⟩ := hNd.e5 (by omega)
                refine lv_aload_n hx hb dX12_workFrame_351 rfl (lv_at hl 1 rfl) ?_
                refine lv_iload_n hx hb dX12_workFrame_352 rfl (lv_at hl 2 rfl) ?_
                refine lv_iload_n hx hb dX12_workFrame_353 rfl (lv_at hl 0 rfl) ?_
                have hFc := allFree hD hS hA
                refine va_callv (va_runV (As := [.int (nI fN), .int (nI nN)]) (rest := []) ⟨hx, hb, hml, hown, hts⟩ (r_X12_workPair l dC dI a k h0 vi vj vF vG nF V wt dp pd nN kN sN la hN pN rN fN fr cN dN (by first | with_reducible assumption | decide | omega | rfl | assumption) (by first | with_reducible assumption | decide | omega | rfl | assumption) (by first | with_reducible assumption | decide | omega | rfl | assumption) (by first | with_reducible assumption | decide | omega | rfl | assumption) hfr9 (by first | with_reducible assumption | decide | omega | rfl | assumption) (by first | with_reducible assumption | decide | omega | rfl | assumption) ((congrFun hn30 nN).trans hcT.1.1) ((congrFun hn31 nN).trans hdT.1.1) (hcT) (hdT) (hwN9) ((show (5 ≤ kN ∧ kN ≤ 8) ∨ kN = 13 by omega)) ((by omega)) hpl (by first | with_reducible assumption | decide | omega | rfl | assumption) ((by omega)) (hpd9) (by first | with_reducible assumption | decide | omega | rfl | assumption) s.heap.size) (cwV 2 hts gwsRX12_workFrame_4 rfl rfl rfl hd_yX12_workPair_RX12 (by decide +kernel)) (fz_pre (va_recv hK hP (ci := 12) (q0 := 0) rfl rfl) hP hK hD) rfl rfl hl.1 rfl (lv_room (Nat.le_of_ble_eq_true rfl)) dX12_workFrame_354 (by decide +kernel)) hS (fun q _ h => hFc q h) hFc (fun u t9_ H locs ht hvm hw9 hB9 hz1 hk1 hS => ?_)
                revert u hw9 hB9
                refine fz_p9 ?_
                intro g49354_1 g50354_1 g52354_1 g53354_1 fr2354_1 pq2354_1 s2354_1 p2354_1 sp2354_1 hw9 hB9
                try dsimp only at hw9 hB9
                have hP : va_P (dC, dI) vwCl (WR a k h0 (fT (fT (fT (fT (fT vi 21 s2354_1) 22 p2354_1) 81 (nI pq2354_1)) 89 (nI fr2354_1)) 82 sp2354_1) vj (fT (fT (fT (fT vF 53 g53354_1) 49 g49354_1) 50 g50354_1) 52 g52354_1) vG) H := fz_P ht hB9.1
                have hD := fz_sd hP (hB9.2.weaken (fun _ q _ h => hFc q.1 h)) rfl
                revert hw9
                refine fz_a4 ?_
                intro f354_1_0 f354_1_1 f354_1_2 f354_1_3
                have f354_1_2 : s2354_1 = (vi 21) ∨ 0 < (s2354_1).toInt := f354_1_2
                have f354_1_3 : StpO nF V wt dp pd nN kN fN hN rN (vF 52) (vF 53) (vF 54) g52354_1 g53354_1 (vF 54) fr2354_1 pq2354_1 := f354_1_3
                refine W.widen (k := 0) (n := 0) (by decide +kernel) (by decide +kernel) ?_
                have e9 : fT (fT (fT (fT (fT (fT vi 21 s2354_1) 22 p2354_1) 82 sp2354_1) 81 (nI pq2354_1)) 89 (nI fr2354_1)) 84 (vi 84) = fT (fT (fT (fT (fT vi 21 s2354_1) 22 p2354_1) 81 (nI pq2354_1)) 89 (nI fr2354_1)) 82 sp2354_1 := ch_E vi [s2354_1, p2354_1, sp2354_1, nI pq2354_1, nI fr2354_1] [(84, 0), (89, 5), (81, 4), (82, 3), (22, 2), (21, 1)] [(82, 3), (89, 5), (81, 4), (22, 2), (21, 1)] [] trivial (by decide +kernel)
                have hP := wr_Pi e9 hP
                have hD := wr_Di e9 hD
                clear e9
                have e9 : fT (fT (fT (fT (fT (fT vF 49 g49354_1) 50 g50354_1) 54 (vF 54)) 53 g53354_1) 51 (vF 51)) 52 g52354_1 = fT (fT (fT (fT vF 53 g53354_1) 49 g49354_1) 50 g50354_1) 52 g52354_1 := ch_E vF [g49354_1, g50354_1, g53354_1, g52354_1] [(52, 4), (51, 0), (53, 3), (54, 0), (50, 2), (49, 1)] [(52, 4), (50, 2), (49, 1), (53, 3)] [] trivial (by decide +kernel)
                have hP := wr_PF e9 hP
                have hD := wr_DF e9 hD
                clear e9
                exact W.vret hx hb hr (fun t9_ ht hW => ⟨⟨(g49354_1, g50354_1, (vF 51), g52354_1, g53354_1, (vF 54), fr2354_1, pq2354_1, s2354_1, p2354_1, sp2354_1, (vi 84)), rfl, by (try dsimp only); exact ⟨f354_1_0, hEn, f354_1_1, f354_1_2, Or.inr f354_1_3, by (have h9 := f354_1_3.fr); omega⟩, by rw [ht]; exact hP, hD⟩, hS.F ht⟩) hS.2.2 dX12_workFrame_357
              · have ts_13_6 : ¬ ((kN : Nat) : Int) = 6 := toI_neq s_13_6 (nI_toInt (by omega)) (by decide)
                by_cases s_13_7 : (nI kN) = 7
                · have ts_13_7 : ((kN : Nat) : Int) = 7 := toI_eq s_13_7 (nI_toInt (by omega)) (by decide)
                  refine lv_tableIn (off := 338) (tgt := 351) hx hb dX12_workFrame_13 (by rw [s_13_7]; decide) (by rw [s_13_7]; decide) (by rw [s_13_7]; decide) (by decide) ?_
                  obtain ⟨hpd9, cN, dN, hcT, hdT, hwN9⟩ := hNd.e5 (by omega)
                  refine lv_aload_n hx hb dX12_workFrame_351 rfl (lv_at hl 1 rfl) ?_
                  refine lv_iload_n hx hb dX12_workFrame_352 rfl (lv_at hl 2 rfl) ?_
                  refine lv_iload_n hx hb dX12_workFrame_353 rfl (lv_at hl 0 rfl) ?_
                  have hFc := allFree hD hS hA
                  refine va_callv (va_runV (As := [.int (nI fN), .int (nI nN)]) (rest := []) ⟨hx, hb, hml, hown, hts⟩ (r_X12_workPair l dC dI a k h0 vi vj vF vG nF V wt dp pd nN kN sN la hN pN rN fN fr cN dN (by first | with_reducible assumption | decide | omega | rfl | assumption) (by first | with_reducible assumption | decide | omega | rfl | assumption) (by first | with_reducible assumption | decide | omega | rfl | assumption) (by first | with_reducible assumption | decide | omega | rfl | assumption) hfr9 (by first | with_reducible assumption | decide | omega | rfl | assumption) (by first | with_reducible assumption | decide | omega | rfl | assumption) ((congrFun hn30 nN).trans hcT.1.1) ((congrFun hn31 nN).trans hdT.1.1) (hcT) (hdT) (hwN9) ((show (5 ≤ kN ∧ kN ≤ 8) ∨ kN = 13 by omega)) ((by omega)) hpl (by first | with_reducible assumption | decide | omega | rfl | assumption) ((by omega)) (hpd9) (by first | with_reducible assumption | decide | omega | rfl | assumption) s.heap.size) (cwV 2 hts gwsRX12_workFrame_4 rfl rfl rfl hd_yX12_workPair_RX12 (by decide +kernel)) (fz_pre (va_recv hK hP (ci := 12) (q0 := 0) rfl rfl) hP hK hD) rfl rfl hl.1 rfl (lv_room (Nat.le_of_ble_eq_true rfl)) dX12_workFrame_354 (by decide +kernel)) hS (fun q _ h => hFc q h) hFc (fun u t9_ H locs ht hvm hw9 hB9 hz1 hk1 hS => ?_)
                  revert u hw9 hB9
                  refine fz_p9 ?_
                  intro g49354_2 g50354_2 g52354_2 g53354_2 fr2354_2 pq2354_2 s2354_2 p2354_2 sp2354_2 hw9 hB9
                  try dsimp only at hw9 hB9
                  have hP : va_P (dC, dI) vwCl (WR a k h0 (fT (fT (fT (fT (fT vi 21 s2354_2) 22 p2354_2) 81 (nI pq2354_2)) 89 (nI fr2354_2)) 82 sp2354_2) vj (fT (fT (fT (fT vF 53 g53354_2) 49 g49354_2) 50 g50354_2) 52 g52354_2) vG) H := fz_P ht hB9.1
                  have hD := fz_sd hP (hB9.2.weaken (fun _ q _ h => hFc q.1 h)) rfl
                  revert hw9
                  refine fz_a4 ?_
                  intro f354_2_0 f354_2_1 f354_2_2 f354_2_3
                  have f354_2_2 : s2354_2 = (vi 21) ∨ 0 < (s2354_2).toInt := f354_2_2
                  have f354_2_3 : StpO nF V wt dp pd nN kN fN hN rN (vF 52) (vF 53) (vF 54) g52354_2 g53354_2 (vF 54) fr2354_2 pq2354_2 := f354_2_3
                  refine W.widen (k := 0) (n := 0) (by decide +kernel) (by decide +kernel) ?_
                  have e9 : fT (fT (fT (fT (fT (fT vi 21 s2354_2) 22 p2354_2) 82 sp2354_2) 81 (nI pq2354_2)) 89 (nI fr2354_2)) 84 (vi 84) = fT (fT (fT (fT (fT vi 21 s2354_2) 22 p2354_2) 81 (nI pq2354_2)) 89 (nI fr2354_2)) 82 sp2354_2 := ch_E vi [s2354_2, p2354_2, sp2354_2, nI pq2354_2, nI fr2354_2] [(84, 0), (89, 5), (81, 4), (82, 3), (22, 2), (21, 1)] [(82, 3), (89, 5), (81, 4), (22, 2), (21, 1)] [] trivial (by decide +kernel)
                  have hP := wr_Pi e9 hP
                  have hD := wr_Di e9 hD
                  clear e9
                  have e9 : fT (fT (fT (fT (fT (fT vF 49 g49354_2) 50 g50354_2) 54 (vF 54)) 53 g53354_2) 51 (vF 51)) 52 g52354_2 = fT (fT (fT (fT vF 53 g53354_2) 49 g49354_2) 50 g50354_2) 52 g52354_2 := ch_E vF [g49354_2, g50354_2, g53354_2, g52354_2] [(52, 4), (51, 0), (53, 3), (54, 0), (50, 2), (49, 1)] [(52, 4), (50, 2), (49, 1), (53, 3)] [] trivial (by decide +kernel)
                  have hP := wr_PF e9 hP
                  have hD := wr_DF e9 hD
                  clear e9
                  exact W.vret hx hb hr (fun t9_ ht hW => ⟨⟨(g49354_2, g50354_2, (vF 51), g52354_2, g53354_2, (vF 54), fr2354_2, pq2354_2, s2354_2, p2354_2, sp2354_2, (vi 84)), rfl, by (try dsimp only); exact ⟨f354_2_0, hEn, f354_2_1, f354_2_2, Or.inr f354_2_3, by (have h9 := f354_2_3.fr); omega⟩, by rw [ht]; exact hP, hD⟩, hS.F ht⟩) hS.2.2 dX12_workFrame_357
                · have ts_13_7 : ¬ ((kN : Nat) : Int) = 7 := toI_neq s_13_7 (nI_toInt (by omega)) (by decide)
                  by_cases s_13_8 : (nI kN) = 8
                  · have ts_13_8 : ((kN : Nat) : Int) = 8 := toI_eq s_13_8 (nI_toInt (by omega)) (by decide)
                    refine lv_tableIn (off := 338) (tgt := 351) hx hb dX12_workFrame_13 (by rw [s_13_8]; decide) (by rw [s_13_8]; decide) (by rw [s_13_8]; decide) (by decide) ?_
                    obtain ⟨hpd9, cN, dN, hcT, hdT, hwN9⟩ := hNd.e5 (by omega)
                    refine lv_aload_n hx hb dX12_workFrame_351 rfl (lv_at hl 1 rfl) ?_
                    refine lv_iload_n hx hb dX12_workFrame_352 rfl (lv_at hl 2 rfl) ?_
                    refine lv_iload_n hx hb dX12_workFrame_353 rfl (lv_at hl 0 rfl) ?_
                    have hFc := allFree hD hS hA
                    refine va_callv (va_runV (As := [.int (nI fN), .int (nI nN)]) (rest := []) ⟨hx, hb, hml, hown, hts⟩ (r_X12_workPair l dC dI a k h0 vi vj vF vG nF V wt dp pd nN kN sN la hN pN rN fN fr cN dN (by first | with_reducible assumption | decide | omega | rfl | assumption) (by first | with_reducible assumption | decide | omega | rfl | assumption) (by first | with_reducible assumption | decide | omega | rfl | assumption) (by first | with_reducible assumption | decide | omega | rfl | assumption) hfr9 (by first | with_reducible assumption | decide | omega | rfl | assumption) (by first | with_reducible assumption | decide | omega | rfl | assumption) ((congrFun hn30 nN).trans hcT.1.1) ((congrFun hn31 nN).trans hdT.1.1) (hcT) (hdT) (hwN9) ((show (5 ≤ kN ∧ kN ≤ 8) ∨ kN = 13 by omega)) ((by omega)) hpl (by first | with_reducible assumption | decide | omega | rfl | assumption) ((by omega)) (hpd9) (by first | with_reducible assumption | decide | omega | rfl | assumption) s.heap.size) (cwV 2 hts gwsRX12_workFrame_4 rfl rfl rfl hd_yX12_workPair_RX12 (by decide +kernel)) (fz_pre (va_recv hK hP (ci := 12) (q0 := 0) rfl rfl) hP hK hD) rfl rfl hl.1 rfl (lv_room (Nat.le_of_ble_eq_true rfl)) dX12_workFrame_354 (by decide +kernel)) hS (fun q _ h => hFc q h) hFc (fun u t9_ H locs ht hvm hw9 hB9 hz1 hk1 hS => ?_)
                    revert u hw9 hB9
                    refine fz_p9 ?_
                    intro g49354_3 g50354_3 g52354_3 g53354_3 fr2354_3 pq2354_3 s2354_3 p2354_3 sp2354_3 hw9 hB9
                    try dsimp only at hw9 hB9
                    have hP : va_P (dC, dI) vwCl (WR a k h0 (fT (fT (fT (fT (fT vi 21 s2354_3) 22 p2354_3) 81 (nI pq2354_3)) 89 (nI fr2354_3)) 82 sp2354_3) vj (fT (fT (fT (fT vF 53 g53354_3) 49 g49354_3) 50 g50354_3) 52 g52354_3) vG) H := fz_P ht hB9.1
                    have hD := fz_sd hP (hB9.2.weaken (fun _ q _ h => hFc q.1 h)) rfl
                    revert hw9
                    refine fz_a4 ?_
                    intro f354_3_0 f354_3_1 f354_3_2 f354_3_3
                    have f354_3_2 : s2354_3 = (vi 21) ∨ 0 < (s2354_3).toInt := f354_3_2
                    have f354_3_3 : StpO nF V wt dp pd nN kN fN hN rN (vF 52) (vF 53) (vF 54) g52354_3 g53354_3 (vF 54) fr2354_3 pq2354_3 := f354_3_3
                    refine W.widen (k := 0) (n := 0) (by decide +kernel) (by decide +kernel) ?_
                    have e9 : fT (fT (fT (fT (fT (fT vi 21 s2354_3) 22 p2354_3) 82 sp2354_3) 81 (nI pq2354_3)) 89 (nI fr2354_3)) 84 (vi 84) = fT (fT (fT (fT (fT vi 21 s2354_3) 22 p2354_3) 81 (nI pq2354_3)) 89 (nI fr2354_3)) 82 sp2354_3 := ch_E vi [s2354_3, p2354_3, sp2354_3, nI pq2354_3, nI fr2354_3] [(84, 0), (89, 5), (81, 4), (82, 3), (22, 2), (21, 1)] [(82, 3), (89, 5), (81, 4), (22, 2), (21, 1)] [] trivial (by decide +kernel)
                    have hP := wr_Pi e9 hP
                    have hD := wr_Di e9 hD
                    clear e9
                    have e9 : fT (fT (fT (fT (fT (fT vF 49 g49354_3) 50 g50354_3) 54 (vF 54)) 53 g53354_3) 51 (vF 51)) 52 g52354_3 = fT (fT (fT (fT vF 53 g53354_3) 49 g49354_3) 50 g50354_3) 52 g52354_3 := ch_E vF [g49354_3, g50354_3, g53354_3, g52354_3] [(52, 4), (51, 0), (53, 3), (54, 0), (50, 2), (49, 1)] [(52, 4), (50, 2), (49, 1), (53, 3)] [] trivial (by decide +kernel)
                    have hP := wr_PF e9 hP
                    have hD := wr_DF e9 hD
                    clear e9
                    exact W.vret hx hb hr (fun t9_ ht hW => ⟨⟨(g49354_3, g50354_3, (vF 51), g52354_3, g53354_3, (vF 54), fr2354_3, pq2354_3, s2354_3, p2354_3, sp2354_3, (vi 84)), rfl, by (try dsimp only); exact ⟨f354_3_0, hEn, f354_3_1, f354_3_2, Or.inr f354_3_3, by (have h9 := f354_3_3.fr); omega⟩, by rw [ht]; exact hP, hD⟩, hS.F ht⟩) hS.2.2 dX12_workFrame_357
                  · have ts_13_8 : ¬ ((kN : Nat) : Int) = 8 := toI_neq s_13_8 (nI_toInt (by omega)) (by decide)
                    by_cases s_13_9 : (nI kN) = 9
                    · have ts_13_9 : ((kN : Nat) : Int) = 9 := toI_eq s_13_9 (nI_toInt (by omega)) (by decide)
                      refine lv_tableIn (off := 249) (tgt := 262) hx hb dX12_workFrame_13 (by rw [s_13_9]; decide) (by rw [s_13_9]; decide) (by rw [s_13_9]; decide) (by decide) ?_
                      obtain ⟨hpd9, bN, cN, wW, b1, b2, b3, b4, b5, hSW, hwN9⟩ := hNd.e9 (by omega)
                      refine lv_aload_n hx hb dX12_workFrame_262 rfl (lv_at hl 1 rfl) ?_
                      refine lv_iload_n hx hb dX12_workFrame_263 rfl (lv_at hl 2 rfl) ?_
                      refine lv_iload_n hx hb dX12_workFrame_264 rfl (lv_at hl 0 rfl) ?_
                      have hFc := allFree hD hS hA
                      refine va_callv (va_runV (As := [.int (nI fN), .int (nI nN)]) (rest := []) ⟨hx, hb, hml, hown, hts⟩ (r_X12_workSum l dC dI a k h0 vi vj vF vG nF V wt dp pd nN kN sN la hN pN rN fN fr bN se cN (nF 31 nN) wW (by first | with_reducible assumption | decide | omega | rfl | assumption) (by first | with_reducible assumption | decide | omega | rfl | assumption) (by first | with_reducible assumption | decide | omega | rfl | assumption) (by first | with_reducible assumption | decide | omega | rfl | assumption) hfr9 (by first | with_reducible assumption | decide | omega | rfl | assumption) (by first | with_reducible assumption | decide | omega | rfl | assumption) ((congrFun hn30 nN).trans b1) (b2) ((by rw [hn36, hn37, hn38]; exact b3)) (by first | with_reducible assumption | decide | omega | rfl | assumption) (by first | with_reducible assumption | decide | omega | rfl | assumption) ((by rw [hn17, hn36, hn37]; exact b4)) (b5) (by first | with_reducible assumption | decide | omega | rfl | assumption) ((congrFun hn32 nN).trans hSW.1.1.1) (congrFun hn31 nN) (rfl) (hSW) (hwN9) (fun h9 => hla (by omega) h9) hpl (by first | with_reducible assumption | decide | omega | rfl | assumption) (by first | with_reducible assumption | decide | omega | rfl | assumption) (hpd9) (by first | with_reducible assumption | decide | omega | rfl | assumption) ((by omega)) s.heap.size) (cwV 2 hts gwsRX12_workFrame_5 rfl rfl rfl hd_yX12_workSum_RX12 (by decide +kernel)) (fz_pre (va_recv hK hP (ci := 12) (q0 := 0) rfl rfl) hP hK hD) rfl rfl hl.1 rfl (lv_room (Nat.le_of_ble_eq_true rfl)) dX12_workFrame_265 (by decide +kernel)) hS (fun q _ h => hFc q h) hFc (fun u t9_ H locs ht hvm hw9 hB9 hz1 hk1 hS => ?_)
                      revert u hw9 hB9
                      refine fz_p10 ?_
                      intro g49265 g50265 g51265 g52265 g53265 g54265 fr2265 pq2265 s2265 p2265 hw9 hB9
                      try dsimp only at hw9 hB9
                      have hP : va_P (dC, dI) vwCl (WR a k h0 (fT (fT (fT (fT vi 21 s2265) 22 p2265) 81 (nI pq2265)) 89 (nI fr2265)) vj (fT (fT (fT (fT (fT (fT vF 49 g49265) 50 g50265) 54 g54265) 53 g53265) 51 g51265) 52 g52265) vG) H := fz_P ht hB9.1
                      have hD := fz_sd hP (hB9.2.weaken (fun _ q _ h => hFc q.1 h)) rfl
                      revert hw9
                      refine fz_a5 ?_
                      intro f265_0 f265_1 f265_2 f265_3 f265_4
                      have f265_3 : s2265 = (vi 21) ∨ 0 < (s2265).toInt := f265_3
                      have f265_4 : StpO nF V wt dp pd nN kN fN hN rN (vF 52) (vF 53) (vF 54) g52265 g53265 g54265 fr2265 pq2265 := f265_4
                      refine lv_goto (tgt := 357) hx hb dX12_workFrame_268 (by decide) ?_
                      refine W.widen (k := 0) (n := 0) (by decide +kernel) (by decide +kernel) ?_
                      have e9 : fT (fT (fT (fT (fT (fT vi 21 s2265) 22 p2265) 82 (vi 82)) 81 (nI pq2265)) 89 (nI fr2265)) 84 (vi 84) = fT (fT (fT (fT vi 21 s2265) 22 p2265) 81 (nI pq2265)) 89 (nI fr2265) := ch_E vi [s2265, p2265, nI pq2265, nI fr2265] [(84, 0), (89, 4), (81, 3), (82, 0), (22, 2), (21, 1)] [(89, 4), (81, 3), (22, 2), (21, 1)] [] trivial (by decide +kernel)
                      have hP := wr_Pi e9 hP
                      have hD := wr_Di e9 hD
                      clear e9
                      exact W.vret hx hb hr (fun t9_ ht hW => ⟨⟨(g49265, g50265, g51265, g52265, g53265, g54265, fr2265, pq2265, s2265, p2265, (vi 82), (vi 84)), rfl, by (try dsimp only); exact ⟨f265_0, f265_1, f265_2, f265_3, Or.inr f265_4, by (have h9 := f265_4.fr); omega⟩, by rw [ht]; exact hP, hD⟩, hS.F ht⟩) hS.2.2 dX12_workFrame_357
                    · have ts_13_9 : ¬ ((kN : Nat) : Int) = 9 := toI_neq s_13_9 (nI_toInt (by omega)) (by decide)
                      by_cases s_13_10 : (nI kN) = 10
                      · have ts_13_10 : ((kN : Nat) : Int) = 10 := toI_eq s_13_10 (nI_toInt (by omega)) (by decide)
                        refine lv_tableIn (off := 258) (tgt := 271) hx hb dX12_workFrame_13 (by rw [s_13_10]; decide) (by rw [s_13_10]; decide) (by rw [s_13_10]; decide) (by decide) ?_
                        obtain ⟨cN, dN, hcT, hdT, hwN9⟩ := hNd.e10 (by omega)
                        refine lv_aload_n hx hb dX12_workFrame_271 rfl (lv_at hl 1 rfl) ?_
                        refine lv_iload_n hx hb dX12_workFrame_272 rfl (lv_at hl 2 rfl) ?_
                        refine lv_iload_n hx hb dX12_workFrame_273 rfl (lv_at hl 0 rfl) ?_
                        have hFc := allFree hD hS hA
                        refine va_callv (va_runV (As := [.int (nI fN), .int (nI nN)]) (rest := []) ⟨hx, hb, hml, hown, hts⟩ (r_X12_workJoined l dC dI a k h0 vi vj vF vG nF V wt dp pd nN kN sN la hN pN rN fN fr cN dN (by first | with_reducible assumption | decide | omega | rfl | assumption) (by first | with_reducible assumption | decide | omega | rfl | assumption) (by first | with_reducible assumption | decide | omega | rfl | assumption) (by first | with_reducible assumption | decide | omega | rfl | assumption) hfr9 (by first | with_reducible assumption | decide | omega | rfl | assumption) (by first | with_reducible assumption | decide | omega | rfl | assumption) ((congrFun hn30 nN).trans hcT.1.1) ((congrFun hn31 nN).trans hdT.1.1) (hcT) (hdT) (hwN9) ((show kN = 10 ∨ kN = 11 by omega)) s.heap.size) (cwV 2 hts gwsRX12_workFrame_6 rfl rfl rfl hd_yX12_workJoined_RX12 (by decide +kernel)) (fz_pre (va_recv hK hP (ci := 12) (q0 := 0) rfl rfl) hP hK hD) rfl rfl hl.1 rfl (lv_room (Nat.le_of_ble_eq_true rfl)) dX12_workFrame_274 (by decide +kernel)) hS (fun q _ h => hFc q h) hFc (fun u t9_ H locs ht hvm hw9 hB9 hz1 hk1 hS => ?_)
                        revert u hw9 hB9
                        refine fz_p3 ?_
                        intro g52274 g53274 fr2274 hw9 hB9
                        try dsimp only at hw9 hB9
                        have hP : va_P (dC, dI) vwCl (WR a k h0 (fT vi 89 (nI fr2274)) vj (fT (fT vF 53 g53274) 52 g52274) vG) H := fz_P ht hB9.1
                        have hD := fz_sd hP (hB9.2.weaken (fun _ q _ h => hFc q.1 h)) rfl
                        have f274_0 := hw9
                        try dsimp only at f274_0
                        have f274_0 : StpO nF V wt dp pd nN kN fN hN rN (vF 52) (vF 53) (vF 54) g52274 g53274 (vF 54) fr2274 pN := f274_0
                        refine lv_goto (tgt := 357) hx hb dX12_workFrame_277 (by decide) ?_
                        refine W.widen (k := 0) (n := 0) (by decide +kernel) (by decide +kernel) ?_
                        have e9 : fT (fT (fT (fT (fT (fT vi 21 (vi 21)) 22 (vi 22)) 82 (vi 82)) 81 (nI pN)) 89 (nI fr2274)) 84 (vi 84) = fT vi 89 (nI fr2274) := ch_E vi [nI pN, nI fr2274] [(84, 0), (89, 2), (81, 1), (82, 0), (22, 0), (21, 0)] [(89, 2)] [81] ⟨show nI pN = vi 81 from (by first | with_reducible rfl | with_reducible assumption | (symm; with_reducible assumption) | rfl | assumption | (symm; assumption) | (subst_vars; rfl)), trivial⟩ (by decide +kernel)
                        have hP := wr_Pi e9 hP
                        have hD := wr_Di e9 hD
                        clear e9
                        have e9 : fT (fT (fT (fT (fT (fT vF 49 (vF 49)) 50 (vF 50)) 54 (vF 54)) 53 g53274) 51 (vF 51)) 52 g52274 = fT (fT vF 53 g53274) 52 g52274 := ch_E vF [g53274, g52274] [(52, 2), (51, 0), (53, 1), (54, 0), (50, 0), (49, 0)] [(52, 2), (53, 1)] [] trivial (by decide +kernel)
                        have hP := wr_PF e9 hP
                        have hD := wr_DF e9 hD
                        clear e9
                        exact W.vret hx hb hr (fun t9_ ht hW => ⟨⟨((vF 49), (vF 50), (vF 51), g52274, g53274, (vF 54), fr2274, pN, (vi 21), (vi 22), (vi 82), (vi 84)), rfl, by (try dsimp only); exact ⟨hRw, hEn, hst0, Or.inl rfl, Or.inr f274_0, by (have h9 := f274_0.fr); omega⟩, by rw [ht]; exact hP, hD⟩, hS.F ht⟩) hS.2.2 dX12_workFrame_357
                      · have ts_13_10 : ¬ ((kN : Nat) : Int) = 10 := toI_neq s_13_10 (nI_toInt (by omega)) (by decide)
                        by_cases s_13_11 : (nI kN) = 11
                        · have ts_13_11 : ((kN : Nat) : Int) = 11 := toI_eq s_13_11 (nI_toInt (by omega)) (by decide)
                          refine lv_tableIn (off := 258) (tgt := 271) hx hb dX12_workFrame_13 (by rw [s_13_11]; decide) (by rw [s_13_11]; decide) (by rw [s_13_11]; decide) (by decide) ?_
                          obtain ⟨cN, dN, hcT, hdT, hwN9⟩ := hNd.e10 (by omega)
                          refine lv_aload_n hx hb dX12_workFrame_271 rfl (lv_at hl 1 rfl) ?_
                          refine lv_iload_n hx hb dX12_workFrame_272 rfl (lv_at hl 2 rfl) ?_
                          refine lv_iload_n hx hb dX12_workFrame_273 rfl (lv_at hl 0 rfl) ?_
                          have hFc := allFree hD hS hA
                          refine va_callv (va_runV (As := [.int (nI fN), .int (nI nN)]) (rest := []) ⟨hx, hb, hml, hown, hts⟩ (r_X12_workJoined l dC dI a k h0 vi vj vF vG nF V wt dp pd nN kN sN la hN pN rN fN fr cN dN (by first | with_reducible assumption | decide | omega | rfl | assumption) (by first | with_reducible assumption | decide | omega | rfl | assumption) (by first | with_reducible assumption | decide | omega | rfl | assumption) (by first | with_reducible assumption | decide | omega | rfl | assumption) hfr9 (by first | with_reducible assumption | decide | omega | rfl | assumption) (by first | with_reducible assumption | decide | omega | rfl | assumption) ((congrFun hn30 nN).trans hcT.1.1) ((congrFun hn31 nN).trans hdT.1.1) (hcT) (hdT) (hwN9) ((show kN = 10 ∨ kN = 11 by omega)) s.heap.size) (cwV 2 hts gwsRX12_workFrame_6 rfl rfl rfl hd_yX12_workJoined_RX12 (by decide +kernel)) (fz_pre (va_recv hK hP (ci := 12) (q0 := 0) rfl rfl) hP hK hD) rfl rfl hl.1 rfl (lv_room (Nat.le_of_ble_eq_true rfl)) dX12_workFrame_274 (by decide +kernel)) hS (fun q _ h => hFc q h) hFc (fun u t9_ H locs ht hvm hw9 hB9 hz1 hk1 hS => ?_)
                          revert u hw9 hB9
                          refine fz_p3 ?_
                          intro g52274_1 g53274_1 fr2274_1 hw9 hB9
                          try dsimp only at hw9 hB9
                          have hP : va_P (dC, dI) vwCl (WR a k h0 (fT vi 89 (nI fr2274_1)) vj (fT (fT vF 53 g53274_1) 52 g52274_1) vG) H := fz_P ht hB9.1
                          have hD := fz_sd hP (hB9.2.weaken (fun _ q _ h => hFc q.1 h)) rfl
                          have f274_1_0 := hw9
                          try dsimp only at f274_1_0
                          have f274_1_0 : StpO nF V wt dp pd nN kN fN hN rN (vF 52) (vF 53) (vF 54) g52274_1 g53274_1 (vF 54) fr2274_1 pN := f274_1_0
                          refine lv_goto (tgt := 357) hx hb dX12_workFrame_277 (by decide) ?_
                          refine W.widen (k := 0) (n := 0) (by decide +kernel) (by decide +kernel) ?_
                          have e9 : fT (fT (fT (fT (fT (fT vi 21 (vi 21)) 22 (vi 22)) 82 (vi 82)) 81 (nI pN)) 89 (nI fr2274_1)) 84 (vi 84) = fT vi 89 (nI fr2274_1) := ch_E vi [nI pN, nI fr2274_1] [(84, 0), (89, 2), (81, 1), (82, 0), (22, 0), (21, 0)] [(89, 2)] [81] ⟨show nI pN = vi 81 from (by first | with_reducible rfl | with_reducible assumption | (symm; with_reducible assumption) | rfl | assumption | (symm; assumption) | (subst_vars; rfl)), trivial⟩ (by decide +kernel)
                          have hP := wr_Pi e9 hP
                          have hD := wr_Di e9 hD
                          clear e9
                          have e9 : fT (fT (fT (fT (fT (fT vF 49 (vF 49)) 50 (vF 50)) 54 (vF 54)) 53 g53274_1) 51 (vF 51)) 52 g52274_1 = fT (fT vF 53 g53274_1) 52 g52274_1 := ch_E vF [g53274_1, g52274_1] [(52, 2), (51, 0), (53, 1), (54, 0), (50, 0), (49, 0)] [(52, 2), (53, 1)] [] trivial (by decide +kernel)
                          have hP := wr_PF e9 hP
                          have hD := wr_DF e9 hD
                          clear e9
                          exact W.vret hx hb hr (fun t9_ ht hW => ⟨⟨((vF 49), (vF 50), (vF 51), g52274_1, g53274_1, (vF 54), fr2274_1, pN, (vi 21), (vi 22), (vi 82), (vi 84)), rfl, by (try dsimp only); exact ⟨hRw, hEn, hst0, Or.inl rfl, Or.inr f274_1_0, by (have h9 := f274_1_0.fr); omega⟩, by rw [ht]; exact hP, hD⟩, hS.F ht⟩) hS.2.2 dX12_workFrame_357
                        · have ts_13_11 : ¬ ((kN : Nat) : Int) = 11 := toI_neq s_13_11 (nI_toInt (by omega)) (by decide)
                          by_cases s_13_12 : (nI kN) = 12
                          · have ts_13_12 : ((kN : Nat) : Int) = 12 := toI_eq s_13_12 (nI_toInt (by omega)) (by decide)
                            refine lv_tableIn (off := 267) (tgt := 280) hx hb dX12_workFrame_13 (by rw [s_13_12]; decide) (by rw [s_13_12]; decide) (by rw [s_13_12]; decide) (by decide) ?_
                            obtain ⟨cN, hc12, hwN9⟩ := hNd.e12 (by omega)
                            have hsd := hTo.not (by omega)
                            have hq1 := hc12.2.2.2.1
                            refine lv_aload_n hx hb dX12_workFrame_280 rfl (lv_at hl 1 rfl) ?_
                            refine va_get (D := (dC, dI)) (ci := 12) (v := .ref (a 53)) (C := RX12) (T := TX12) (N := 163) (fs := fM (vS a vi vj)) hx hb hts iwsRX12_workFrame_in12 hown hK hP 0 rfl rfl 86 (by decide) (hts _ hm_r_X12_workFrame_5) (fun _ h9 => h9) rfl dX12_workFrame_281 ?_
                            refine lv_iload_n hx hb dX12_workFrame_284 rfl (lv_at hl 2 rfl) ?_
                            refine lv_dup2_11 hx hb dX12_workFrame_285 rfl rfl ?_
                            refine va_iald (cA := k 53) (n := 4300) (f := (vF 53)) hx hb hK hP 54 53 (WR_get 53 (by decide)) (TR_get 53 (by decide)) (vp_in_nI (show fN < 4300 by omega) (by omega)) dX12_workFrame_286 ?_
                            refine lv_topi (fun y42 hy42 => ?_)
                            obtain rfl : ((vF 53) fN) = y42 := (hy42.trans (by rw [nI_clamp (by omega)])).symm
                            refine lv_topi (fun y43 hy43 => ?_)
                            obtain rfl : (nI sN) = y43 := (hy43.trans (hsN)).symm
                            refine lv_iconst (v := 1) hx hb dX12_workFrame_287 (by decide) ?_
                            refine lv_iadd hx hb dX12_workFrame_288 ?_
                            refine lv_topi (fun y44 hy44 => ?_)
                            obtain rfl : (nI (sN + 1)) = y44 := (hy44.trans (nI_add sN 1)).symm
                            refine va_iast (cA := k 53) (n := 4300) (f := (vF 53)) hx hb hK hP hD hS 54 53 (WR_get 53 (by decide)) (TR_get 53 (by decide)) (vp_in_nI (show fN < 4300 by omega) (by omega)) dX12_workFrame_289 (fun H locs hP hD hS => ?_)
                            have hP : va_P (dC, dI) vwCl (WR a k h0 vi vj (fT vF 53 (upd (vF 53) ((nI fN)).toNatClampNeg (nI (sN + 1)))) vG) H := fz_w (WR_F 53 (by decide) _ rfl) hP
                            have hD : va_D A (WR a k h0 vi vj (fT vF 53 (upd (vF 53) ((nI fN)).toNatClampNeg (nI (sN + 1)))) vG) := fz_wD (WR_F 53 (by decide) _ rfl) hD
                            refine lv_aload_n hx hb dX12_workFrame_290 rfl (lv_at hl 1 rfl) ?_
                            refine va_get (D := (dC, dI)) (ci := 12) (v := .ref (a 53)) (C := RX12) (T := TX12) (N := 163) (fs := fM (vS a vi vj)) hx hb hts iwsRX12_workFrame_in12 hown hK hP 0 rfl rfl 86 (by decide) (hts _ hm_r_X12_workFrame_5) (fun _ h9 => h9) rfl dX12_workFrame_291 ?_
                            refine lv_iload_n hx hb dX12_workFrame_294 rfl (lv_at hl 2 rfl) ?_
                            refine va_iald (cA := k 53) (n := 4300) (f := (upd (vF 53) ((nI fN)).toNatClampNeg (nI (sN + 1)))) hx hb hK hP 54 53 (WR_get 53 (by decide)) (TR_get 53 (by decide)) (vp_in_nI (show fN < 4300 by omega) (by omega)) dX12_workFrame_295 ?_
                            refine lv_topi (fun y45 hy45 => ?_)
                            obtain rfl : ((upd (vF 53) ((nI fN)).toNatClampNeg (nI (sN + 1))) fN) = y45 := (hy45.trans (by rw [nI_clamp (by omega)])).symm
                            refine lv_topi (fun y46 hy46 => ?_)
                            obtain rfl : (nI (sN + 1)) = y46 := (hy46.trans ((by rw [upd_at (by omega), if_pos rfl]))).symm
                            refine lv_iconst (v := 1) hx hb dX12_workFrame_296 (by decide) ?_
                            refine lv_icmp_ne (tgt := 313) hx hb dX12_workFrame_297 (by decide) (fun c_297 => ?_) (fun c_297 => ?_)
                            · have t_297 : (((sN + 1) : Nat) : Int) ≠ 1 := toI_ne c_297 (nI_toInt (by omega)) (by decide)
                              refine lv_aload_n hx hb dX12_workFrame_313 rfl (lv_at hl 1 rfl) ?_
                              refine lv_aload_n hx hb dX12_workFrame_314 rfl (lv_at hl 1 rfl) ?_
                              refine va_get (D := (dC, dI)) (ci := 12) (v := .int (vi 84)) (C := RX12) (T := TX12) (N := 163) (fs := fM (vS a vi vj)) hx hb hts iwsRX12_workFrame_in12 hown hK hP 0 rfl rfl 84 (by decide) (hts _ hm_r_X12_workFrame_6) (fun _ h9 => h9) rfl dX12_workFrame_315 ?_
                              refine W.cut (pc := 326) (fun H locs ls stk => ∃ (tv : Int32), (tv = 0 ∨ tv = 1) ∧  stk = [.int tv, .ref h0] ∧ va_P (dC, dI) vwCl (WR a k h0 vi vj (fT vF 53 (upd (vF 53) ((nI fN)).toNatClampNeg (nI (sN + 1)))) vG) H ∧ va_D A (WR a k h0 vi vj (fT vF 53 (upd (vF 53) ((nI fN)).toNatClampNeg (nI (sN + 1)))) vG) ∧ va_S A s.heap H locs ∧ lv_has ls 4 [(2, .int (nI nN)), (0, .ref h0), (1, .int (nI fN))]) (fun join1 => ?_) ?_
                              · refine lv_if_ne (tgt := 325) hx hb dX12_workFrame_318 (by decide) (fun c_318 => ?_) (fun c_318 => ?_)
                                · have t_318 : ((vi 84)).toInt ≠ 0 := toI_ne c_318 rfl (by decide)
                                  refine lv_iconst (v := 0) hx hb dX12_workFrame_325 (by decide) ?_
                                  have hl : lv_has _ _ ([(2, .int (nI nN)), (0, .ref h0), (1, .int (nI fN))]) := lv_sub hl [0, 1, 2] rfl
                                  exact join1 _ _ _ _ ⟨0, by decide, rfl, hP, hD, hS, hl⟩
                                · have t_318 : ((vi 84)).toInt = 0 := toI_nne c_318 rfl (by decide)
                                  refine lv_iconst (v := 1) hx hb dX12_workFrame_321 (by decide) ?_
                                  refine lv_goto (tgt := 326) hx hb dX12_workFrame_322 (by decide) ?_
                                  have hl : lv_has _ _ ([(2, .int (nI nN)), (0, .ref h0), (1, .int (nI fN))]) := lv_sub hl [0, 1, 2] rfl
                                  exact join1 _ _ _ _ ⟨1, by decide, rfl, hP, hD, hS, hl⟩
                              · rintro H locs ls stk ⟨tv, htv, rfl, hP, hD, hS, hl⟩
                                refine va_put (D := (dC, dI)) (ci := 12) (v := .int tv) (ty := .boolean) (C := RX12) (T := TX12) (N := 163) (fs := fM (vS a vi vj)) hx hb hts iwsRX12_workFrame_in12 tyX12 tyX12_ok nmX12 hown hK hP hD hS 0 rfl rfl 84 (by decide) (hts _ hm_r_X12_workFrame_6) (fun _ h9 => h9) rfl (by decide +kernel) (by rcases htv with h9 | h9 <;> (rw [h9]; rfl)) (by rcases htv with h9 | h9 <;> (rw [h9]; rfl)) (Nat.le_of_ble_eq_true rfl) dX12_workFrame_326 (fun H locs hP hD hS => ?_)
                                have hP : va_P (dC, dI) vwCl (WR a k h0 (fT vi 84 tv) vj (fT vF 53 (upd (vF 53) ((nI fN)).toNatClampNeg (nI (sN + 1)))) vG) H := fz_w (WR_i 84 _ rfl) hP
                                have hD : va_D A (WR a k h0 (fT vi 84 tv) vj (fT vF 53 (upd (vF 53) ((nI fN)).toNatClampNeg (nI (sN + 1)))) vG) := fz_wD (WR_i 84 _ rfl) hD
                                refine lv_aload_n hx hb dX12_workFrame_329 rfl (lv_at hl 1 rfl) ?_
                                refine lv_dup hx hb dX12_workFrame_330 rfl ?_
                                refine va_get (D := (dC, dI)) (ci := 12) (v := .int (vi 89)) (C := RX12) (T := TX12) (N := 163) (fs := fM (vS a (fT vi 84 tv) vj)) hx hb hts iwsRX12_workFrame_in12 hown hK hP 0 rfl rfl 89 (by decide) (hts _ hm_r_X12_workFrame_4) (fun _ h9 => h9) rfl dX12_workFrame_331 ?_
                                refine lv_topi (fun y47 hy47 => ?_)
                                obtain rfl : (nI fr) = y47 := (hy47.trans (hfr9)).symm
                                refine lv_iconst (v := 1) hx hb dX12_workFrame_334 (by decide) ?_
                                refine lv_isub hx hb dX12_workFrame_335 ?_
                                refine lv_topi (fun y48 hy48 => ?_)
                                obtain rfl : (nI (fr - 1)) = y48 := (hy48.trans (pk_sub (a := fr) (b := 1) (by omega))).symm
                                refine va_put (D := (dC, dI)) (ci := 12) (v := .int (nI (fr - 1))) (ty := .int) (C := RX12) (T := TX12) (N := 163) (fs := fM (vS a (fT vi 84 tv) vj)) hx hb hts iwsRX12_workFrame_in12 tyX12 tyX12_ok nmX12 hown hK hP hD hS 0 rfl rfl 89 (by decide) (hts _ hm_r_X12_workFrame_4) (fun _ h9 => h9) rfl (by decide +kernel) rfl rfl (Nat.le_of_ble_eq_true rfl) dX12_workFrame_336 (fun H locs hP hD hS => ?_)
                                have hP : va_P (dC, dI) vwCl (WR a k h0 (fT (fT vi 84 tv) 89 (nI (fr - 1))) vj (fT vF 53 (upd (vF 53) ((nI fN)).toNatClampNeg (nI (sN + 1)))) vG) H := fz_w (WR_i 89 _ rfl) hP
                                have hD : va_D A (WR a k h0 (fT (fT vi 84 tv) 89 (nI (fr - 1))) vj (fT vF 53 (upd (vF 53) ((nI fN)).toNatClampNeg (nI (sN + 1)))) vG) := fz_wD (WR_i 89 _ rfl) hD
                                refine lv_goto (tgt := 357) hx hb dX12_workFrame_339 (by decide) ?_
                                refine W.widen (k := 0) (n := 0) (by decide +kernel) (by decide +kernel) ?_
                                have e9 : fT (fT (fT (fT (fT (fT vi 21 (vi 21)) 22 (vi 22)) 82 (vi 82)) 81 (nI pN)) 89 (nI (fr - 1))) 84 tv = fT (fT vi 84 tv) 89 (nI (fr - 1)) := ch_E vi [nI pN, nI (fr - 1), tv] [(84, 3), (89, 2), (81, 1), (82, 0), (22, 0), (21, 0)] [(89, 2), (84, 3)] [81] ⟨show nI pN = vi 81 from (by first | with_reducible rfl | with_reducible assumption | (symm; with_reducible assumption) | rfl | assumption | (symm; assumption) | (subst_vars; rfl)), trivial⟩ (by decide +kernel)
                                have hP := wr_Pi e9 hP
                                have hD := wr_Di e9 hD
                                clear e9
                                have e9 : fT (fT (fT (fT (fT (fT vF 49 (vF 49)) 50 (vF 50)) 54 (vF 54)) 53 (upd (vF 53) ((nI fN)).toNatClampNeg (nI (sN + 1)))) 51 (vF 51)) 52 (vF 52) = fT vF 53 (upd (vF 53) ((nI fN)).toNatClampNeg (nI (sN + 1))) := ch_E vF [upd (vF 53) ((nI fN)).toNatClampNeg (nI (sN + 1))] [(52, 0), (51, 0), (53, 1), (54, 0), (50, 0), (49, 0)] [(53, 1)] [] trivial (by decide +kernel)
                                have hP := wr_PF e9 hP
                                have hD := wr_DF e9 hD
                                clear e9
                                exact W.vret hx hb hr (fun t9_ ht hW => ⟨⟨((vF 49), (vF 50), (vF 51), (vF 52), (upd (vF 53) ((nI fN)).toNatClampNeg (nI (sN + 1))), (vF 54), (fr - 1), pN, (vi 21), (vi 22), (vi 82), tv), rfl, by (try dsimp only); exact ⟨hRw, hEn, hst0, Or.inl rfl, Or.inr (StpO.pop hfN hfr1 (fun _ _ => rfl) (by rw [if_neg (by omega)]; omega)), by omega⟩, by rw [ht]; exact hP, hD⟩, hS.F ht⟩) hS.2.2 dX12_workFrame_357
                            · have t_297 : (((sN + 1) : Nat) : Int) = 1 := toI_nne c_297 (nI_toInt (by omega)) (by decide)
                              refine lv_aload_n hx hb dX12_workFrame_300 rfl (lv_at hl 1 rfl) ?_
                              refine lv_aload_n hx hb dX12_workFrame_301 rfl (lv_at hl 1 rfl) ?_
                              refine va_get (D := (dC, dI)) (ci := 12) (v := .ref (a 30)) (C := RX12) (T := TX12) (N := 163) (fs := fM (vS a vi vj)) hx hb hts iwsRX12_workFrame_in12 hown hK hP 0 rfl rfl 54 (by decide) (hts _ hm_r_X12_workFrame_3) (fun _ h9 => h9) rfl dX12_workFrame_302 ?_
                              refine lv_iload_n hx hb dX12_workFrame_305 rfl (lv_at hl 0 rfl) ?_
                              refine va_iald (cA := k 30) (n := 4200) (f := (vF 30)) hx hb hK hP 31 30 (WR_get 30 (by decide)) (TR_get 30 (by decide)) (vp_in_nI (show nN < 4200 by omega) (by omega)) dX12_workFrame_306 ?_
                              refine lv_topi (fun y49 hy49 => ?_)
                              obtain rfl : ((vF 30) nN) = y49 := (hy49.trans (by rw [nI_clamp (by omega)])).symm
                              refine lv_topi (fun y50 hy50 => ?_)
                              obtain rfl : (nI cN) = y50 := (hy50.trans ((congrFun hn30 nN).trans hc12.1.1)).symm
                              have hFc := allFree hD hS hA
                              refine va_callv (va_runV (As := [.int (nI cN)]) (rest := []) ⟨hx, hb, hml, hown, hts⟩ (r_X12_call l dC dI a k h0 vi vj (fT vF 53 (upd (vF 53) ((nI fN)).toNatClampNeg (nI (sN + 1)))) vG (nI cN) fr hfr9 (by first | with_reducible assumption | decide | omega | rfl | assumption) H.size) (cwV 1 hts gwsRX12_workFrame_3 rfl rfl rfl hd_yX12_call_RX12 (by decide +kernel)) (fz_pre (va_recv hK hP (ci := 12) (q0 := 0) rfl rfl) hP hK hD) rfl rfl hl.1 rfl (lv_room (Nat.le_of_ble_eq_true rfl)) dX12_workFrame_307 (by decide +kernel)) hS (fun q _ h => hFc q h) hFc (fun u t9_ H locs ht hvm hw9 hB9 hz1 hk1 hS => ?_)
                              have e9F : fT (fT vF 53 (upd (upd (vF 53) ((nI fN)).toNatClampNeg (nI (sN + 1))) (nI fr).toNatClampNeg 0)) 52 (upd (vF 52) (nI fr).toNatClampNeg (nI cN)) = fT (fT (fT vF 53 (upd (vF 53) ((nI fN)).toNatClampNeg (nI (sN + 1)))) 52 (upd (vF 52) (nI fr).toNatClampNeg (nI cN))) 53 (upd (upd (vF 53) ((nI fN)).toNatClampNeg (nI (sN + 1))) (nI fr).toNatClampNeg 0) := ((fT_sw _ _ _ (Nat.ne_of_beq_eq_false rfl)).trans (congrArg (fun g9 => fT g9 52 (upd (vF 52) (nI fr).toNatClampNeg (nI cN))) (fT_sm _ _ _ _))).symm
                              have hP := wr_PF e9F (fz_P ht hB9.1)
                              have hD := wr_DF e9F (hB9.2.weaken (fun _ q _ h => hFc q.1 h))
                              clear e9F
                              refine lv_goto (tgt := 357) hx hb dX12_workFrame_310 (by decide) ?_
                              refine W.widen (k := 0) (n := 0) (by decide +kernel) (by decide +kernel) ?_
                              have e9 : fT (fT (fT (fT (fT (fT vi 21 (vi 21)) 22 (vi 22)) 82 (vi 82)) 81 (nI pN)) 89 (nI (fr + 1))) 84 (vi 84) = fT vi 89 (nI (fr + 1)) := ch_E vi [nI pN, nI (fr + 1)] [(84, 0), (89, 2), (81, 1), (82, 0), (22, 0), (21, 0)] [(89, 2)] [81] ⟨show nI pN = vi 81 from (by first | with_reducible rfl | with_reducible assumption | (symm; with_reducible assumption) | rfl | assumption | (symm; assumption) | (subst_vars; rfl)), trivial⟩ (by decide +kernel)
                              have hP := wr_Pi e9 hP
                              have hD := wr_Di e9 hD
                              clear e9
                              have e9 : fT (fT (fT (fT (fT (fT vF 49 (vF 49)) 50 (vF 50)) 54 (vF 54)) 53 (upd (upd (vF 53) ((nI fN)).toNatClampNeg (nI (sN + 1))) (nI fr).toNatClampNeg 0)) 51 (vF 51)) 52 (upd (vF 52) (nI fr).toNatClampNeg (nI cN)) = fT (fT vF 53 (upd (upd (vF 53) ((nI fN)).toNatClampNeg (nI (sN + 1))) (nI fr).toNatClampNeg 0)) 52 (upd (vF 52) (nI fr).toNatClampNeg (nI cN)) := ch_E vF [upd (upd (vF 53) ((nI fN)).toNatClampNeg (nI (sN + 1))) (nI fr).toNatClampNeg 0, upd (vF 52) (nI fr).toNatClampNeg (nI cN)] [(52, 2), (51, 0), (53, 1), (54, 0), (50, 0), (49, 0)] [(52, 2), (53, 1)] [] trivial (by decide +kernel)
                              have hP := wr_PF e9 hP
                              have hD := wr_DF e9 hD
                              clear e9
                              exact W.vret hx hb hr (fun t9_ ht hW => ⟨⟨((vF 49), (vF 50), (vF 51), (upd (vF 52) (nI fr).toNatClampNeg (nI cN)), (upd (upd (vF 53) ((nI fN)).toNatClampNeg (nI (sN + 1))) (nI fr).toNatClampNeg 0), (vF 54), (fr + 1), pN, (vi 21), (vi 22), (vi 82), (vi 84)), rfl, by (try dsimp only); exact ⟨hRw, hEn, hst0, Or.inl rfl, Or.inr (by (obtain rfl : sN = 0 := by omega); (obtain rfl : kN = 12 := by omega); (obtain rfl : pN = hN := by omega); exact StpO.push 1 la 1 hfN hfr1 (fun _ _ => rfl) (fun h9 => absurd h9 (by omega)) hc12.2.1 hc12.2.2.1 (by omega) (WtO.t1 hc12.2.2.2.2 (Nat.le_refl _)) (by omega)), by omega⟩, by rw [ht]; exact hP, hD⟩, hS.F ht⟩) hS.2.2 dX12_workFrame_357
                          · have ts_13_12 : ¬ ((kN : Nat) : Int) = 12 := toI_neq s_13_12 (nI_toInt (by omega)) (by decide)
                            by_cases s_13_13 : (nI kN) = 13
                            · have ts_13_13 : ((kN : Nat) : Int) = 13 := toI_eq s_13_13 (nI_toInt (by omega)) (by decide)
                              refine lv_tableIn (off := 329) (tgt := 342) hx hb dX12_workFrame_13 (by rw [s_13_13]; decide) (by rw [s_13_13]; decide) (by rw [s_13_13]; decide) (by decide) ?_
                              obtain ⟨hpd9, cN, dN, hcT, hdT, hwN9⟩ := hNd.e5 (by omega)
                              refine lv_aload_n hx hb dX12_workFrame_342 rfl (lv_at hl 1 rfl) ?_
                              refine lv_iload_n hx hb dX12_workFrame_343 rfl (lv_at hl 2 rfl) ?_
                              refine lv_iload_n hx hb dX12_workFrame_344 rfl (lv_at hl 0 rfl) ?_
                              have hFc := allFree hD hS hA
                              refine va_callv (va_runV (As := [.int (nI fN), .int (nI nN)]) (rest := []) ⟨hx, hb, hml, hown, hts⟩ (r_X12_workCompare l dC dI a k h0 vi vj vF vG nF V wt dp pd nN kN sN la hN pN rN fN fr cN dN (by first | with_reducible assumption | decide | omega | rfl | assumption) (by first | with_reducible assumption | decide | omega | rfl | assumption) (by first | with_reducible assumption | decide | omega | rfl | assumption) (by first | with_reducible assumption | decide | omega | rfl | assumption) hfr9 (by first | with_reducible assumption | decide | omega | rfl | assumption) (by first | with_reducible assumption | decide | omega | rfl | assumption) ((congrFun hn30 nN).trans hcT.1.1) ((congrFun hn31 nN).trans hdT.1.1) (hcT) (hdT) (hwN9) ((show (5 ≤ kN ∧ kN ≤ 8) ∨ kN = 13 by omega)) ((by omega)) hpl (by first | with_reducible assumption | decide | omega | rfl | assumption) ((by omega)) (hpd9) (by first | with_reducible assumption | decide | omega | rfl | assumption) s.heap.size) (cwV 2 hts gwsRX12_workFrame_7 rfl rfl rfl hd_yX12_workCompare_RX12 (by decide +kernel)) (fz_pre (va_recv hK hP (ci := 12) (q0 := 0) rfl rfl) hP hK hD) rfl rfl hl.1 rfl (lv_room (Nat.le_of_ble_eq_true rfl)) dX12_workFrame_345 (by decide +kernel)) hS (fun q _ h => hFc q h) hFc (fun u t9_ H locs ht hvm hw9 hB9 hz1 hk1 hS => ?_)
                              revert u hw9 hB9
                              refine fz_p7 ?_
                              intro g52345 g53345 fr2345 pq2345 s2345 p2345 tv2345 hw9 hB9
                              try dsimp only at hw9 hB9
                              have hP : va_P (dC, dI) vwCl (WR a k h0 (fT (fT (fT (fT (fT vi 21 s2345) 22 p2345) 84 tv2345) 81 (nI pq2345)) 89 (nI fr2345)) vj (fT (fT vF 53 g53345) 52 g52345) vG) H := fz_P ht hB9.1
                              have hD := fz_sd hP (hB9.2.weaken (fun _ q _ h => hFc q.1 h)) rfl
                              revert hw9
                              refine fz_a5 ?_
                              intro f345_0 f345_1 f345_2 f345_3 f345_4
                              have f345_1 : s2345 = (vi 21) ∨ 0 < (s2345).toInt := f345_1
                              have f345_2 : 0 < (s2345).toInt ∨ StpO nF V wt dp pd nN kN fN hN rN (vF 52) (vF 53) (vF 54) g52345 g53345 (vF 54) fr2345 pq2345 := f345_2
                              refine lv_goto (tgt := 357) hx hb dX12_workFrame_348 (by decide) ?_
                              refine W.widen (k := 0) (n := 0) (by decide +kernel) (by decide +kernel) ?_
                              have e9 : fT (fT (fT (fT (fT (fT vi 21 s2345) 22 p2345) 82 (vi 82)) 81 (nI pq2345)) 89 (nI fr2345)) 84 tv2345 = fT (fT (fT (fT (fT vi 21 s2345) 22 p2345) 84 tv2345) 81 (nI pq2345)) 89 (nI fr2345) := ch_E vi [s2345, p2345, nI pq2345, nI fr2345, tv2345] [(84, 5), (89, 4), (81, 3), (82, 0), (22, 2), (21, 1)] [(89, 4), (81, 3), (84, 5), (22, 2), (21, 1)] [] trivial (by decide +kernel)
                              have hP := wr_Pi e9 hP
                              have hD := wr_Di e9 hD
                              clear e9
                              have e9 : fT (fT (fT (fT (fT (fT vF 49 (vF 49)) 50 (vF 50)) 54 (vF 54)) 53 g53345) 51 (vF 51)) 52 g52345 = fT (fT vF 53 g53345) 52 g52345 := ch_E vF [g53345, g52345] [(52, 2), (51, 0), (53, 1), (54, 0), (50, 0), (49, 0)] [(52, 2), (53, 1)] [] trivial (by decide +kernel)
                              have hP := wr_PF e9 hP
                              have hD := wr_DF e9 hD
                              clear e9
                              exact W.vret hx hb hr (fun t9_ ht hW => ⟨⟨((vF 49), (vF 50), (vF 51), g52345, g53345, (vF 54), fr2345, pq2345, s2345, p2345, (vi 82), tv2345), rfl, by (try dsimp only); exact ⟨fun v9 h9 => hRw v9 (by (have h8 := f345_3); omega), hEn, f345_0, f345_1, f345_2, f345_4⟩, by rw [ht]; exact hP, hD⟩, hS.F ht⟩) hS.2.2 dX12_workFrame_357
                            · have ts_13_13 : ¬ ((kN : Nat) : Int) = 13 := toI_neq s_13_13 (nI_toInt (by omega)) (by decide)
                              refine lv_tableOut (tgt := 351) hx hb dX12_workFrame_13 (by have := lv_neT s_13_0 (show Int32.toInt 0 = 0 by decide); have := lv_neT s_13_1 (show Int32.toInt 1 = 1 by decide); have := lv_neT s_13_2 (show Int32.toInt 2 = 2 by decide); have := lv_neT s_13_3 (show Int32.toInt 3 = 3 by decide); have := lv_neT s_13_4 (show Int32.toInt 4 = 4 by decide); have := lv_neT s_13_5 (show Int32.toInt 5 = 5 by decide); have := lv_neT s_13_6 (show Int32.toInt 6 = 6 by decide); have := lv_neT s_13_7 (show Int32.toInt 7 = 7 by decide); have := lv_neT s_13_8 (show Int32.toInt 8 = 8 by decide); have := lv_neT s_13_9 (show Int32.toInt 9 = 9 by decide); have := lv_neT s_13_10 (show Int32.toInt 10 = 10 by decide); have := lv_neT s_13_11 (show Int32.toInt 11 = 11 by decide); have := lv_neT s_13_12 (show Int32.toInt 12 = 12 by decide); have := lv_neT s_13_13 (show Int32.toInt 13 = 13 by decide); omega) (by decide) ?_
                              obtain ⟨hpd9, cN, dN, hcT, hdT, hwN9⟩ := hNd.e5 (by omega)
                              refine lv_aload_n hx hb dX12_workFrame_351 rfl (lv_at hl 1 rfl) ?_
                              refine lv_iload_n hx hb dX12_workFrame_352 rfl (lv_at hl 2 rfl) ?_
                              refine lv_iload_n hx hb dX12_workFrame_353 rfl (lv_at hl 0 rfl) ?_
                              have hFc := allFree hD hS hA
                              refine va_callv (va_runV (As := [.int (nI fN), .int (nI nN)]) (rest := []) ⟨hx, hb, hml, hown, hts⟩ (r_X12_workPair l dC dI a k h0 vi vj vF vG nF V wt dp pd nN kN sN la hN pN rN fN fr cN dN (by first | with_reducible assumption | decide | omega | rfl | assumption) (by first | with_reducible assumption | decide | omega | rfl | assumption) (by first | with_reducible assumption | decide | omega | rfl | assumption) (by first | with_reducible assumption | decide | omega | rfl | assumption) hfr9 (by first | with_reducible assumption | decide | omega | rfl | assumption) (by first | with_reducible assumption | decide | omega | rfl | assumption) ((congrFun hn30 nN).trans hcT.1.1) ((congrFun hn31 nN).trans hdT.1.1) (hcT) (hdT) (hwN9) ((show (5 ≤ kN ∧ kN ≤ 8) ∨ kN = 13 by omega)) ((by omega)) hpl (by first | with_reducible assumption | decide | omega | rfl | assumption) ((by omega)) (hpd9) (by first | with_reducible assumption | decide | omega | rfl | assumption) s.heap.size) (cwV 2 hts gwsRX12_workFrame_4 rfl rfl rfl hd_yX12_workPair_RX12 (by decide +kernel)) (fz_pre (va_recv hK hP (ci := 12) (q0 := 0) rfl rfl) hP hK hD) rfl rfl hl.1 rfl (lv_room (Nat.le_of_ble_eq_true rfl)) dX12_workFrame_354 (by decide +kernel)) hS (fun q _ h => hFc q h) hFc (fun u t9_ H locs ht hvm hw9 hB9 hz1 hk1 hS => ?_)
                              revert u hw9 hB9
                              refine fz_p9 ?_
                              intro g49354_4 g50354_4 g52354_4 g53354_4 fr2354_4 pq2354_4 s2354_4 p2354_4 sp2354_4 hw9 hB9
                              try dsimp only at hw9 hB9
                              have hP : va_P (dC, dI) vwCl (WR a k h0 (fT (fT (fT (fT (fT vi 21 s2354_4) 22 p2354_4) 81 (nI pq2354_4)) 89 (nI fr2354_4)) 82 sp2354_4) vj (fT (fT (fT (fT vF 53 g53354_4) 49 g49354_4) 50 g50354_4) 52 g52354_4) vG) H := fz_P ht hB9.1
                              have hD := fz_sd hP (hB9.2.weaken (fun _ q _ h => hFc q.1 h)) rfl
                              revert hw9
                              refine fz_a4 ?_
                              intro f354_4_0 f354_4_1 f354_4_2 f354_4_3
                              have f354_4_2 : s2354_4 = (vi 21) ∨ 0 < (s2354_4).toInt := f354_4_2
                              have f354_4_3 : StpO nF V wt dp pd nN kN fN hN rN (vF 52) (vF 53) (vF 54) g52354_4 g53354_4 (vF 54) fr2354_4 pq2354_4 := f354_4_3
                              refine W.widen (k := 0) (n := 0) (by decide +kernel) (by decide +kernel) ?_
                              have e9 : fT (fT (fT (fT (fT (fT vi 21 s2354_4) 22 p2354_4) 82 sp2354_4) 81 (nI pq2354_4)) 89 (nI fr2354_4)) 84 (vi 84) = fT (fT (fT (fT (fT vi 21 s2354_4) 22 p2354_4) 81 (nI pq2354_4)) 89 (nI fr2354_4)) 82 sp2354_4 := ch_E vi [s2354_4, p2354_4, sp2354_4, nI pq2354_4, nI fr2354_4] [(84, 0), (89, 5), (81, 4), (82, 3), (22, 2), (21, 1)] [(82, 3), (89, 5), (81, 4), (22, 2), (21, 1)] [] trivial (by decide +kernel)
                              have hP := wr_Pi e9 hP
                              have hD := wr_Di e9 hD
                              clear e9
                              have e9 : fT (fT (fT (fT (fT (fT vF 49 g49354_4) 50 g50354_4) 54 (vF 54)) 53 g53354_4) 51 (vF 51)) 52 g52354_4 = fT (fT (fT (fT vF 53 g53354_4) 49 g49354_4) 50 g50354_4) 52 g52354_4 := ch_E vF [g49354_4, g50354_4, g53354_4, g52354_4] [(52, 4), (51, 0), (53, 3), (54, 0), (50, 2), (49, 1)] [(52, 4), (50, 2), (49, 1), (53, 3)] [] trivial (by decide +kernel)
                              have hP := wr_PF e9 hP
                              have hD := wr_DF e9 hD
                              clear e9
                              exact W.vret hx hb hr (fun t9_ ht hW => ⟨⟨(g49354_4, g50354_4, (vF 51), g52354_4, g53354_4, (vF 54), fr2354_4, pq2354_4, s2354_4, p2354_4, sp2354_4, (vi 84)), rfl, by (try dsimp only); exact ⟨f354_4_0, hEn, f354_4_1, f354_4_2, Or.inr f354_4_3, by (have h9 := f354_4_3.fr); omega⟩, by rw [ht]; exact hP, hD⟩, hS.F ht⟩) hS.2.2 dX12_workFrame_357
end
section
theorem hd_yX12_workFrame_RX12 : yX12_workFrame.cls = RX12 ∧ yX12_workFrame.cls ≠ "java/lang/invoke/MethodHandle" ∧ yX12_workFrame.cls ≠ "java/lang/invoke/VarHandle" ∧ (parseMethodDescriptor yX12_workFrame.desc).map (fun d => d.parameters.length) = some 1 := by decide +kernel
theorem dX12_work_0 : decode cX12_work 0 = .ok (.aload_n 0, 1) := dk_42 (by decide +kernel)
theorem dX12_work_1 : decode cX12_work 1 = .ok (.iconst 0, 1) := dk_3 (by decide +kernel)
theorem dX12_work_2 : decode cX12_work 2 = .ok (.putfield 647, 3) := dk_181 (by decide +kernel)
theorem dX12_work_5 : decode cX12_work 5 = .ok (.aload_n 0, 1) := dk_42 (by decide +kernel)
theorem dX12_work_6 : decode cX12_work 6 = .ok (.iload_n 1, 1) := dk_27 (by decide +kernel)
theorem dX12_work_7 : decode cX12_work 7 = .ok (.invokevirtual 650, 3) := dk_182 (by decide +kernel)
theorem dX12_work_10 : decode cX12_work 10 = .ok (.aload_n 0, 1) := dk_42 (by decide +kernel)
theorem dX12_work_11 : decode cX12_work 11 = .ok (.getfield 647, 3) := dk_180 (by decide +kernel)
theorem dX12_work_14 : decode cX12_work 14 = .ok (.ifCond .le 23, 3) := dk_158 (by decide +kernel)
theorem dX12_work_17 : decode cX12_work 17 = .ok (.aload_n 0, 1) := dk_42 (by decide +kernel)
theorem dX12_work_18 : decode cX12_work 18 = .ok (.getfield 515, 3) := dk_180 (by decide +kernel)
theorem dX12_work_21 : decode cX12_work 21 = .ok (.ifCond .ne 16, 3) := dk_154 (by decide +kernel)
theorem dX12_work_24 : decode cX12_work 24 = .ok (.aload_n 0, 1) := dk_42 (by decide +kernel)
theorem dX12_work_25 : decode cX12_work 25 = .ok (.aload_n 0, 1) := dk_42 (by decide +kernel)
theorem dX12_work_26 : decode cX12_work 26 = .ok (.getfield 647, 3) := dk_180 (by decide +kernel)
theorem dX12_work_29 : decode cX12_work 29 = .ok (.iconst 1, 1) := dk_4 (by decide +kernel)
theorem dX12_work_30 : decode cX12_work 30 = .ok (.isub, 1) := dk_100 (by decide +kernel)
theorem dX12_work_31 : decode cX12_work 31 = .ok (.invokevirtual 653, 3) := dk_182 (by decide +kernel)
theorem dX12_work_34 : decode cX12_work 34 = .ok (.goto (-24), 3) := dk_167 (by decide +kernel)
theorem dX12_work_37 : decode cX12_work 37 = .ok (.return_, 1) := dk_177 (by decide +kernel)
def wsRX12_work : List Cond := .code yX12_work cX12_work 2 none :: ([.fieldLink RX12 647 "OptimaWorksModel" "framed" "I", .fieldLink RX12 515 "OptimaWorksModel" "stop" "I"] ++ wsX120 ++ (wsV RX12 650 RX12 yX12_call wsRX12_call) ++ (wsV RX12 653 RX12 yX12_workFrame wsRX12_workFrame))
theorem iwsRX12_work_in12 : ∀ w ∈ wsX120, w ∈ wsRX12_work := fun _ h => List.mem_cons_of_mem _ (List.mem_append_left _ (List.mem_append_left _ (List.mem_append_right _ h)))
theorem gwsRX12_work_0 : GoodIn wsRX12_work (wsV RX12 650 RX12 yX12_call wsRX12_call) := goodIn_sub (fun _ h => List.mem_cons_of_mem _ (List.mem_append_left _ (List.mem_append_right _ h))) (gdV (by decide +kernel) gdwsRX12_call)
theorem gwsRX12_work_1 : GoodIn wsRX12_work (wsV RX12 653 RX12 yX12_workFrame wsRX12_workFrame) := goodIn_sub (fun _ h => List.mem_cons_of_mem _ (List.mem_append_right _ h)) (gdV (by decide +kernel) gdwsRX12_workFrame)
theorem gdwsRX12_work : wsRX12_work.all goodWord = true := gdC rfl (gdA (gdA (gdA (by decide +kernel : ([.fieldLink RX12 647 "OptimaWorksModel" "framed" "I", .fieldLink RX12 515 "OptimaWorksModel" "stop" "I"] : List Cond).all goodWord = true) gdwsX120) (gdV (by decide +kernel) gdwsRX12_call)) (gdV (by decide +kernel) gdwsRX12_workFrame))
theorem hm_r_X12_work_0 : (.fieldLink RX12 647 "OptimaWorksModel" "framed" "I" : Cond) ∈ wsRX12_work := by decide +kernel
set_option maxHeartbeats 4000000 in
set_option maxRecDepth 100000 in
/-- work(n) -/
theorem r_X12_work (l : Launch) (dC : Nat → ClassId) (dI : Nat → Nat → Nat) (a : Nat → Nat) (k : Nat → ClassId) (h0 : Nat) (vi : Nat → Int32) (vj : Nat → Int64) (vF : Nat → Nat → Int32) (vG : Nat → Nat → Int64) (nF : Nat → Nat → Int32) (V : Nat → Prop) (wt : Nat → Nat) (dp : Nat → Nat) (pd : Nat → Nat) (nN : Nat) (hN : Nat) (se : Nat) (hse44 : se ≤ 44) (hSe : SeO (vF 16) (vF 17) se) (hVo : VoK nF V wt dp pd se) (hVn : V nN) (hdp : dp nN ≤ 4200) (hpp : hN + pd nN ≤ 80) (hn17 : vF 17 = nF 17) (hn18 : vF 18 = nF 18) (hn19 : vF 19 = nF 19) (hn20 : vF 20 = nF 20) (hn21 : vF 21 = nF 21) (hn24 : vF 24 = nF 24) (hn25 : vF 25 = nF 25) (hn26 : vF 26 = nF 26) (hn27 : vF 27 = nF 27) (hn29 : vF 29 = nF 29) (hn30 : vF 30 = nF 30) (hn31 : vF 31 = nF 31) (hn32 : vF 32 = nF 32) (hn36 : vF 36 = nF 36) (hn37 : vF 37 = nF 37) (hn38 : vF 38 = nF 38) (hEn : EnO (vF 51)) (hPt : PtO (vF 22) (vF 23) (nuF nF)) (hpl : vi 81 = nI hN) (hRw : ∀ v9, v9 < hN → RowU (vF 49) (vF 50) v9) (hst0 : 0 ≤ (vi 21).toInt) (hst1 : (vi 21).toInt ≤ 0) (sz : Nat) : Met l yX12_work wsRX12_work ({ frames := 5, cells := 0, slots := 0, locals := 141 }) (va_Pc [.ref h0, .int (nI nN)] (fun U => U.heap.size = sz ∧ va_P (dC, dI) vwCl (WR a k h0 vi vj vF vG) U.heap ∧ va_K (dC, dI) vwCl (tX12 k) U ∧ va_D (fun _ => True) (WR a k h0 vi vj vF vG))) (va_Qv (fun (u : (Nat → Int32) × (Nat → Int32) × (Nat → Int32) × (Nat → Int32) × (Nat → Int32) × (Nat → Int32) × (Nat) × (Nat) × (Int32) × (Int32) × (Int32) × (Int32)) => (∀ v9, v9 < (u.2.2.2.2.2.2.2.1) → RowU (u.1) (u.2.1) v9) ∧ (EnO (u.2.2.1)) ∧ (0 ≤ ((u.2.2.2.2.2.2.2.2.1)).toInt) ∧ (0 < ((u.2.2.2.2.2.2.2.2.1)).toInt ∨ ((u.2.2.2.2.2.2.2.1) = hN + 1 ∧ (nF 29 nN).toInt ≤ 9) ∨ ((u.2.2.2.2.2.2.2.1) = hN ∧ ¬ (nF 29 nN).toInt ≤ 9))) (fun (u : (Nat → Int32) × (Nat → Int32) × (Nat → Int32) × (Nat → Int32) × (Nat → Int32) × (Nat → Int32) × (Nat) × (Nat) × (Int32) × (Int32) × (Int32) × (Int32)) t => va_P (dC, dI) vwCl (WR a k h0 (fT (fT (fT (fT (fT (fT vi 89 (nI (u.2.2.2.2.2.2.1))) 81 (nI (u.2.2.2.2.2.2.2.1))) 21 (u.2.2.2.2.2.2.2.2.1)) 22 (u.2.2.2.2.2.2.2.2.2.1)) 82 (u.2.2.2.2.2.2.2.2.2.2.1)) 84 (u.2.2.2.2.2.2.2.2.2.2.2)) vj (fT (fT (fT (fT (fT (fT vF 52 (u.2.2.2.1)) 53 (u.2.2.2.2.1)) 49 (u.1)) 50 (u.2.1)) 51 (u.2.2.1)) 54 (u.2.2.2.2.2.1)) vG) t.heap ∧ va_D (va_A (WR a k h0 vi vj vF vG) sz) (WR a k h0 (fT (fT (fT (fT (fT (fT vi 89 (nI (u.2.2.2.2.2.2.1))) 81 (nI (u.2.2.2.2.2.2.2.1))) 21 (u.2.2.2.2.2.2.2.2.1)) 22 (u.2.2.2.2.2.2.2.2.2.1)) 82 (u.2.2.2.2.2.2.2.2.2.2.1)) 84 (u.2.2.2.2.2.2.2.2.2.2.2)) vj (fT (fT (fT (fT (fT (fT vF 52 (u.2.2.2.1)) 53 (u.2.2.2.2.1)) 49 (u.1)) 50 (u.2.1)) 51 (u.2.2.1)) 54 (u.2.2.2.2.2.1)) vG)) (va_A (WR a k h0 vi vj vF vG) sz)) 0 0 (va_A (WR a k h0 vi vj vF vG) sz) := by
  refine Met.ofW (cc := cX12_work) (maxL := 2) (ret := none) (by decide) rfl ?_
  intro p e s m args below meth c s₁ B hml hv
  obtain ⟨rfl, hsz, hP, hK, hD0⟩ := hv
  have hx := B.exec
  have hb := B.bytes
  have hr := B.returns
  have hts := atoms_spec (ws := wsRX12_work) B.pre
  have hown : s.vm.findClass RX12 = some m.cls := findClass_of_methodNamed B.named
  have hlocks := B.notSynchronized
  subst hsz
  have hD := hD0.self (sz := s.heap.size)
  generalize hAe : va_A (WR a k h0 vi vj vF vG) s.heap.size = A at hD ⊢
  have hA : ∀ q : Nat, s.heap.size ≤ q → A q := fun q h => by rw [← hAe]; exact Or.inr h
  have hS : va_S A s.heap s.heap [] := va_S.rf
  have hl := lv_entry ([.ref h0, .int (nI nN)]) (n := 2) (Nat.le_of_ble_eq_true rfl)
  rw [lg_entry_eq]
  generalize (lg_sl ([.ref h0, .int (nI nN)]) ++ List.replicate (2 - (lg_sl ([.ref h0, .int (nI nN)])).length) Slot.unset).toArray = ls at hl ⊢
  have hl : lv_has ls 2 [(0, .ref h0), (1, .int (nI nN))] := hl
  refine lv_aload_n hx hb dX12_work_0 rfl (lv_at hl 0 rfl) ?_
  refine lv_iconst (v := 0) hx hb dX12_work_1 (by decide) ?_
  refine va_put (D := (dC, dI)) (ci := 12) (v := .int 0) (ty := .int) (C := RX12) (T := TX12) (N := 163) (fs := fM (vS a vi vj)) hx hb hts iwsRX12_work_in12 tyX12 tyX12_ok nmX12 hown hK hP hD hS 0 rfl rfl 89 (by decide) (hts _ hm_r_X12_work_0) (fun _ h9 => h9) rfl (by decide +kernel) rfl rfl (Nat.le_of_ble_eq_true rfl) dX12_work_2 (fun H locs hP hD hS => ?_)
  have hP : va_P (dC, dI) vwCl (WR a k h0 (fT vi 89 0) vj vF vG) H := fz_w (WR_i 89 _ rfl) hP
  have hD : va_D A (WR a k h0 (fT vi 89 0) vj vF vG) := fz_wD (WR_i 89 _ rfl) hD
  refine lv_aload_n hx hb dX12_work_5 rfl (lv_at hl 0 rfl) ?_
  refine lv_iload_n hx hb dX12_work_6 rfl (lv_at hl 1 rfl) ?_
  have hFc := allFree hD hS hA
  refine va_callv (va_runV (As := [.int (nI nN)]) (rest := []) ⟨hx, hb, hml, hown, hts⟩ (r_X12_call l dC dI a k h0 (fT vi 89 0) vj vF vG (nI nN) 0 (nI_0.symm) ((by decide)) H.size) (cwV 1 hts gwsRX12_work_0 rfl rfl rfl hd_yX12_call_RX12 (by decide +kernel)) (fz_pre (va_recv hK hP (ci := 12) (q0 := 0) rfl rfl) hP hK hD) rfl rfl hl.1 rfl (lv_room (Nat.le_of_ble_eq_true rfl)) dX12_work_7 (by decide +kernel)) hS (fun q _ h => hFc q h) hFc (fun u t9_ H locs ht hvm hw9 hB9 hz1 hk1 hS => ?_)
  have e9i : fT vi 89 (nI (0 + 1)) = fT (fT vi 89 0) 89 (nI (0 + 1)) := (fT_sm _ _ _ _).symm
  have hP := wr_Pi e9i (fz_P ht hB9.1)
  have hD := wr_Di e9i (hB9.2.weaken (fun _ q _ h => hFc q.1 h))
  clear e9i
  have e9 : fT (fT (fT (fT (fT (fT vi 89 (nI (0 + 1))) 81 (nI hN)) 21 (vi 21)) 22 (vi 22)) 82 (vi 82)) 84 (vi 84) = fT vi 89 (nI (0 + 1)) := ch_E vi [nI (0 + 1), nI hN] [(84, 0), (82, 0), (22, 0), (21, 0), (81, 2), (89, 1)] [(89, 1)] [81] ⟨show nI hN = vi 81 from (by first | with_reducible rfl | with_reducible assumption | (symm; with_reducible assumption) | rfl | assumption | (symm; assumption) | (subst_vars; rfl)), trivial⟩ (by decide +kernel)
  have hP := wr_Pi e9 hP
  have hD := wr_Di e9 hD
  clear e9
  have e9 : fT (fT (fT (fT (fT (fT vF 52 (upd (vF 52) (nI 0).toNatClampNeg (nI nN))) 53 (upd (vF 53) (nI 0).toNatClampNeg 0)) 49 (vF 49)) 50 (vF 50)) 51 (vF 51)) 54 (vF 54) = fT (fT vF 52 (upd (vF 52) (nI 0).toNatClampNeg (nI nN))) 53 (upd (vF 53) (nI 0).toNatClampNeg 0) := ch_E vF [upd (vF 52) (nI 0).toNatClampNeg (nI nN), upd (vF 53) (nI 0).toNatClampNeg 0] [(54, 0), (51, 0), (50, 0), (49, 0), (53, 2), (52, 1)] [(53, 2), (52, 1)] [] trivial (by decide +kernel)
  have hP := wr_PF e9 hP
  have hD := wr_DF e9 hD
  clear e9
  have hl : lv_has _ _ ([(0, .ref h0), (1, .int (nI nN))]) := lv_sub hl [0, 1] rfl
  refine (fun (loop : ∀ (n9 : Nat) (fr5 : Nat) (pq : Nat) (mQ : Nat) (f49x : Nat → Int32) (f50x : Nat → Int32) (f51x : Nat → Int32) (f52x : Nat → Int32) (f53x : Nat → Int32) (f54x : Nat → Int32) (st5 : Int32) (pl5 : Int32) (sp5 : Int32) (tv5 : Int32) (H : Heap) (locs : List Loc) (ls : Array Slot), (fr5 ≤ 4300) → (∀ v9, v9 < pq → RowU f49x f50x v9) → (EnO f51x) → (0 ≤ (st5).toInt) → (0 < (st5).toInt ∨ FrsO nF V wt dp pd f52x f53x f54x 4200 hN nN fr5 pq mQ) →  (mQ < n9) → va_P (dC, dI) vwCl (WR a k h0 (fT (fT (fT (fT (fT (fT vi 89 (nI fr5)) 81 (nI pq)) 21 st5) 22 pl5) 82 sp5) 84 tv5) vj (fT (fT (fT (fT (fT (fT vF 52 f52x) 53 f53x) 49 f49x) 50 f50x) 51 f51x) 54 f54x) vG) H → va_D A (WR a k h0 (fT (fT (fT (fT (fT (fT vi 89 (nI fr5)) 81 (nI pq)) 21 st5) 22 pl5) 82 sp5) 84 tv5) vj (fT (fT (fT (fT (fT (fT vF 52 f52x) 53 f53x) 49 f49x) 50 f50x) 51 f51x) 54 f54x) vG) → va_S A s.heap H locs → lv_has ls 2 [(0, .ref h0), (1, .int (nI nN))] → W p l e _ s m _ below meth c H locs 0 0 _ (F0 m 10 ls [])) => loop ((2 * wt nN + 2)) (0 + 1) hN (2 * wt nN + 1) (vF 49) (vF 50) (vF 51) (upd (vF 52) (nI 0).toNatClampNeg (nI nN)) (upd (vF 53) (nI 0).toNatClampNeg 0) (vF 54) (vi 21) (vi 22) (vi 82) (vi 84) _ _ _ (by omega) (hRw) (hEn) (hst0) (Or.inr (FrsO.first hVo hVn (by rw [upd_at (by omega), if_pos rfl]) (by rw [upd_at (by omega), if_pos rfl]) (by omega) hpp)) (by omega) hP hD hS hl) ?_
  intro n9
  induction n9 with
  | zero => intro fr5 pq mQ f49x f50x f51x f52x f53x f54x st5 pl5 sp5 tv5 H locs ls hfr5 hrx hEx hs50 hfs hf9; exact False.elim (by omega)
  | succ n9 ih10 =>
    intro fr5 pq mQ f49x f50x f51x f52x f53x f54x st5 pl5 sp5 tv5 H locs ls hfr5 hrx hEx hs50 hfs hf10 hP hD hS hl
    refine lv_aload_n hx hb dX12_work_10 rfl (lv_at hl 0 rfl) ?_
    refine va_get (D := (dC, dI)) (ci := 12) (v := .int (nI fr5)) (C := RX12) (T := TX12) (N := 163) (fs := fM (vS a (fT (fT (fT (fT (fT (fT vi 89 (nI fr5)) 81 (nI pq)) 21 st5) 22 pl5) 82 sp5) 84 tv5) vj)) hx hb hts iwsRX12_work_in12 hown hK hP 0 rfl rfl 89 (by decide) (hts _ hm_r_X12_work_0) (fun _ h9 => h9) rfl dX12_work_11 ?_
    refine lv_if_le (tgt := 37) hx hb dX12_work_14 (by decide) (fun c_14 => ?_) (fun c_14 => ?_)
    · have t_14 : ((fr5 : Nat) : Int) ≤ 0 := toI_le c_14 (nI_toInt (by omega)) (by decide)
      refine W.widen (k := 0) (n := 0) (by decide +kernel) (by decide +kernel) ?_
      exact W.vret hx hb hr (fun t9_ ht hW => ⟨⟨(f49x, f50x, f51x, f52x, f53x, f54x, fr5, pq, st5, pl5, sp5, tv5), rfl, by (try dsimp only); exact ⟨hrx, hEx, hs50, by (by_cases h9 : 0 < (st5).toInt); (exact Or.inl h9); (exact Or.inr ((hfs.resolve_left h9).done (by omega)))⟩, by rw [ht]; exact hP, hD⟩, hS.F ht⟩) hS.2.2 dX12_work_37
    · have t_14 : ¬ ((fr5 : Nat) : Int) ≤ 0 := toI_nle c_14 (nI_toInt (by omega)) (by decide)
      refine lv_aload_n hx hb dX12_work_17 rfl (lv_at hl 0 rfl) ?_
      refine va_get (D := (dC, dI)) (ci := 12) (v := .int st5) (C := RX12) (T := TX12) (N := 163) (fs := fM (vS a (fT (fT (fT (fT (fT (fT vi 89 (nI fr5)) 81 (nI pq)) 21 st5) 22 pl5) 82 sp5) 84 tv5) vj)) hx hb hts iwsRX12_work_in12 hown hK hP 0 rfl rfl 21 (by decide) (hts (.fieldLink RX12 515 "OptimaWorksModel" "stop" "I") (by decide +kernel)) (fun _ h9 => h9) rfl dX12_work_18 ?_
      refine lv_if_ne (tgt := 37) hx hb dX12_work_21 (by decide) (fun c_21 => ?_) (fun c_21 => ?_)
      · have t_21 : (st5).toInt ≠ 0 := toI_ne c_21 rfl (by decide)
        refine W.widen (k := 0) (n := 0) (by decide +kernel) (by decide +kernel) ?_
        exact W.vret hx hb hr (fun t9_ ht hW => ⟨⟨(f49x, f50x, f51x, f52x, f53x, f54x, fr5, pq, st5, pl5, sp5, tv5), rfl, by (try dsimp only); exact ⟨hrx, hEx, hs50, by (by_cases h9 : 0 < (st5).toInt); (exact Or.inl h9); (exact Or.inr ((hfs.resolve_left h9).done (by omega)))⟩, by rw [ht]; exact hP, hD⟩, hS.F ht⟩) hS.2.2 dX12_work_37
      · have t_21 : (st5).toInt = 0 := toI_nne c_21 rfl (by decide)
        obtain ⟨fN, n1, k1, s1, la1, h1, r1, R1, hf1, ⟨hv1, hk1a, hk1b⟩, ⟨h52a, h53a, h54a⟩, hTo1, hBe1, ⟨hD1a, hD1b⟩, hm1⟩ := (hfs.resolve_left (by omega)).top (by omega)
        obtain rfl : fN = fr5 - 1 := by omega
        obtain ⟨hn4, k2, hk2, hNd1⟩ := hVo n1 hv1
        obtain rfl : k1 = k2 := nIinj (by omega) (by (have h9 := hNd1.k13); omega) (hk1a.symm.trans hk2)
        refine lv_aload_n hx hb dX12_work_24 rfl (lv_at hl 0 rfl) ?_
        refine lv_aload_n hx hb dX12_work_25 rfl (lv_at hl 0 rfl) ?_
        refine va_get (D := (dC, dI)) (ci := 12) (v := .int (nI fr5)) (C := RX12) (T := TX12) (N := 163) (fs := fM (vS a (fT (fT (fT (fT (fT (fT vi 89 (nI fr5)) 81 (nI pq)) 21 st5) 22 pl5) 82 sp5) 84 tv5) vj)) hx hb hts iwsRX12_work_in12 hown hK hP 0 rfl rfl 89 (by decide) (hts _ hm_r_X12_work_0) (fun _ h9 => h9) rfl dX12_work_26 ?_
        refine lv_iconst (v := 1) hx hb dX12_work_29 (by decide) ?_
        refine lv_isub hx hb dX12_work_30 ?_
        refine lv_topi (fun y1 hy1 => ?_)
        obtain rfl : (nI (fr5 - 1)) = y1 := (hy1.trans (pk_sub (a := fr5) (b := 1) (by omega))).symm
        have hFc := allFree hD hS hA
        refine va_callv (va_runV (As := [.int (nI (fr5 - 1))]) (rest := []) ⟨hx, hb, hml, hown, hts⟩ (r_X12_workFrame l dC dI a k h0 (fT (fT (fT (fT (fT (fT vi 89 (nI fr5)) 81 (nI pq)) 21 st5) 22 pl5) 82 sp5) 84 tv5) vj (fT (fT (fT (fT (fT (fT vF 52 f52x) 53 f53x) 49 f49x) 50 f50x) 51 f51x) 54 f54x) vG nF V wt dp pd n1 k1 s1 la1 h1 pq r1 (fr5 - 1) fr5 se (hn4) ((by omega)) ((congrFun hn29 _).trans hk1a) (h53a) (rfl) (hf1) (hTo1) (by first | with_reducible assumption | decide | omega | rfl | assumption) (by first | with_reducible assumption | decide | omega | rfl | assumption) (h52a) (by first | with_reducible assumption | decide | omega | rfl | assumption) (by first | with_reducible assumption | decide | omega | rfl | assumption) (by first | with_reducible assumption | decide | omega | rfl | assumption) (by first | with_reducible assumption | decide | omega | rfl | assumption) (by first | with_reducible assumption | decide | omega | rfl | assumption) (by first | with_reducible assumption | decide | omega | rfl | assumption) (by first | with_reducible assumption | decide | omega | rfl | assumption) (by first | with_reducible assumption | decide | omega | rfl | assumption) (by first | with_reducible assumption | decide | omega | rfl | assumption) (by first | with_reducible assumption | decide | omega | rfl | assumption) (by first | with_reducible assumption | decide | omega | rfl | assumption) (by first | with_reducible assumption | decide | omega | rfl | assumption) (by first | with_reducible assumption | decide | omega | rfl | assumption) (by first | with_reducible assumption | decide | omega | rfl | assumption) (by first | with_reducible assumption | decide | omega | rfl | assumption) (by first | with_reducible assumption | decide | omega | rfl | assumption) (hNd1) (hEx) (by first | with_reducible assumption | decide | omega | rfl | assumption) (h54a) (rfl) (hrx) (hD1b) (hs50) ((show (st5).toInt ≤ 0 by rw [c_21]; decide)) H.size) (cwV 1 hts gwsRX12_work_1 rfl rfl rfl hd_yX12_workFrame_RX12 (by decide +kernel)) (fz_pre (va_recv hK hP (ci := 12) (q0 := 0) rfl rfl) hP hK hD) rfl rfl hl.1 rfl (lv_room (Nat.le_of_ble_eq_true rfl)) dX12_work_31 (by decide +kernel)) hS (fun q _ h => hFc q h) hFc (fun u t9_ H locs ht hvm hw9 hB9 hz1 hk1 hS => ?_)
        revert u hw9 hB9
        refine fz_p12 ?_
        intro g4931 g5031 g5131 g5231 g5331 g5431 fr231 pq231 s231 p231 sp231 tv231 hw9 hB9
        try dsimp only at hw9 hB9
        have e9i : fT (fT (fT (fT (fT (fT vi 89 (nI fr231)) 81 (nI pq231)) 21 s231) 22 p231) 82 sp231) 84 tv231 = fT (fT (fT (fT (fT (fT (fT (fT (fT (fT (fT (fT vi 89 (nI fr5)) 81 (nI pq)) 21 st5) 22 pl5) 82 sp5) 84 tv5) 21 s231) 22 p231) 82 sp231) 81 (nI pq231)) 89 (nI fr231)) 84 tv231 := ch_E vi [nI fr231, nI pq231, s231, p231, sp231, tv231, nI fr5, nI pq, st5, pl5, sp5, tv5] [(84, 6), (82, 5), (22, 4), (21, 3), (81, 2), (89, 1)] [(84, 6), (89, 1), (81, 2), (82, 5), (22, 4), (21, 3), (84, 12), (82, 11), (22, 10), (21, 9), (81, 8), (89, 7)] [] trivial (by decide +kernel)
        have e9F : fT (fT (fT (fT (fT (fT vF 52 g5231) 53 g5331) 49 g4931) 50 g5031) 51 g5131) 54 g5431 = fT (fT (fT (fT (fT (fT (fT (fT (fT (fT (fT (fT vF 52 f52x) 53 f53x) 49 f49x) 50 f50x) 51 f51x) 54 f54x) 49 g4931) 50 g5031) 54 g5431) 53 g5331) 51 g5131) 52 g5231 := ch_E vF [g5231, g5331, g4931, g5031, g5131, g5431, f52x, f53x, f49x, f50x, f51x, f54x] [(54, 6), (51, 5), (50, 4), (49, 3), (53, 2), (52, 1)] [(52, 1), (51, 5), (53, 2), (54, 6), (50, 4), (49, 3), (54, 12), (51, 11), (50, 10), (49, 9), (53, 8), (52, 7)] [] trivial (by decide +kernel)
        have hP := wr_PF e9F (wr_Pi e9i (fz_P ht hB9.1))
        have hD := wr_DF e9F (wr_Di e9i (hB9.2.weaken (fun _ q _ h => hFc q.1 h)))
        clear e9i e9F
        revert hw9
        refine fz_a6 ?_
        intro f31_0 f31_1 f31_2 f31_3 f31_4 f31_5
        have f31_3 : s231 = st5 ∨ 0 < (s231).toInt := f31_3
        have f31_4 : 0 < (s231).toInt ∨ StpO nF V wt dp pd n1 k1 (fr5 - 1) h1 r1 f52x f53x f54x g5231 g5331 g5431 fr231 pq231 := f31_4
        refine lv_goto (tgt := 10) hx hb dX12_work_34 (by decide) ?_
        have hl : lv_has _ _ ([(0, .ref h0), (1, .int (nI nN))]) := lv_sub hl [0, 1] rfl
        exact ih10 fr231 pq231 (mQ - 1) g4931 g5031 g5131 g5231 g5331 g5431 s231 p231 sp231 tv231 _ _ _ (by omega) (f31_0) (f31_1) (f31_2) (f31_4.imp id (fun h9 => FrsO.step hVo hv1 hk1a hk1b h52a hBe1 hD1a hD1b hm1 h9)) (by omega) hP hD hS hl
end
section
theorem hd_yX12_work_RX12 : yX12_work.cls = RX12 ∧ yX12_work.cls ≠ "java/lang/invoke/MethodHandle" ∧ yX12_work.cls ≠ "java/lang/invoke/VarHandle" ∧ (parseMethodDescriptor yX12_work.desc).map (fun d => d.parameters.length) = some 1 := by decide +kernel
theorem hd_yX12_workNumber_RX12 : yX12_workNumber.cls = RX12 ∧ yX12_workNumber.cls ≠ "java/lang/invoke/MethodHandle" ∧ yX12_workNumber.cls ≠ "java/lang/invoke/VarHandle" ∧ (parseMethodDescriptor yX12_workNumber.desc).map (fun d => d.parameters.length) = some 1 := by decide +kernel
theorem dX12_workNumber_0 : decode cX12_workNumber 0 = .ok (.aload_n 0, 1) := dk_42 (by decide +kernel)
theorem dX12_workNumber_1 : decode cX12_workNumber 1 = .ok (.aload_n 0, 1) := dk_42 (by decide +kernel)
theorem dX12_workNumber_2 : decode cX12_workNumber 2 = .ok (.getfield 221, 3) := dk_180 (by decide +kernel)
theorem dX12_workNumber_5 : decode cX12_workNumber 5 = .ok (.iload_n 1, 1) := dk_27 (by decide +kernel)
theorem dX12_workNumber_6 : decode cX12_workNumber 6 = .ok (.iaload, 1) := dk_46 (by decide +kernel)
theorem dX12_workNumber_7 : decode cX12_workNumber 7 = .ok (.invokevirtual 747, 3) := dk_182 (by decide +kernel)
theorem dX12_workNumber_10 : decode cX12_workNumber 10 = .ok (.aload_n 0, 1) := dk_42 (by decide +kernel)
theorem dX12_workNumber_11 : decode cX12_workNumber 11 = .ok (.getfield 515, 3) := dk_180 (by decide +kernel)
theorem dX12_workNumber_14 : decode cX12_workNumber 14 = .ok (.ifCond .ne 28, 3) := dk_154 (by decide +kernel)
theorem dX12_workNumber_17 : decode cX12_workNumber 17 = .ok (.aload_n 0, 1) := dk_42 (by decide +kernel)
theorem dX12_workNumber_18 : decode cX12_workNumber 18 = .ok (.aload_n 0, 1) := dk_42 (by decide +kernel)
theorem dX12_workNumber_19 : decode cX12_workNumber 19 = .ok (.getfield 659, 3) := dk_180 (by decide +kernel)
theorem dX12_workNumber_22 : decode cX12_workNumber 22 = .ok (.iconst 1, 1) := dk_4 (by decide +kernel)
theorem dX12_workNumber_23 : decode cX12_workNumber 23 = .ok (.isub, 1) := dk_100 (by decide +kernel)
theorem dX12_workNumber_24 : decode cX12_workNumber 24 = .ok (.invokevirtual 638, 3) := dk_182 (by decide +kernel)
theorem dX12_workNumber_27 : decode cX12_workNumber 27 = .ok (.ifCond .eq 15, 3) := dk_153 (by decide +kernel)
theorem dX12_workNumber_30 : decode cX12_workNumber 30 = .ok (.aload_n 0, 1) := dk_42 (by decide +kernel)
theorem dX12_workNumber_31 : decode cX12_workNumber 31 = .ok (.bipush 7, 2) := dk_16 (by decide +kernel)
theorem dX12_workNumber_33 : decode cX12_workNumber 33 = .ok (.aload_n 0, 1) := dk_42 (by decide +kernel)
theorem dX12_workNumber_34 : decode cX12_workNumber 34 = .ok (.getfield 224, 3) := dk_180 (by decide +kernel)
theorem dX12_workNumber_37 : decode cX12_workNumber 37 = .ok (.iload_n 1, 1) := dk_27 (by decide +kernel)
theorem dX12_workNumber_38 : decode cX12_workNumber 38 = .ok (.iaload, 1) := dk_46 (by decide +kernel)
theorem dX12_workNumber_39 : decode cX12_workNumber 39 = .ok (.invokevirtual 518, 3) := dk_182 (by decide +kernel)
theorem dX12_workNumber_42 : decode cX12_workNumber 42 = .ok (.return_, 1) := dk_177 (by decide +kernel)
def wsRX12_workNumber : List Cond := .code yX12_workNumber cX12_workNumber 2 none :: ([.fieldLink RX12 221 "OptimaWorksModel" "partNode" "[I", .fieldLink RX12 515 "OptimaWorksModel" "stop" "I", .fieldLink RX12 659 "OptimaWorksModel" "piled" "I", .fieldLink RX12 224 "OptimaWorksModel" "partFirst" "[I"] ++ wsX120 ++ (wsV RX12 747 RX12 yX12_work wsRX12_work) ++ (wsV RX12 638 RX12 yX12_hasVariables wsRX12_hasVariables) ++ (wsV RX12 518 RX12 yX12_faultAt wsRX12_faultAt))
theorem iwsRX12_workNumber_in12 : ∀ w ∈ wsX120, w ∈ wsRX12_workNumber := fun _ h => List.mem_cons_of_mem _ (List.mem_append_left _ (List.mem_append_left _ (List.mem_append_left _ (List.mem_append_right _ h))))
theorem gwsRX12_workNumber_0 : GoodIn wsRX12_workNumber (wsV RX12 747 RX12 yX12_work wsRX12_work) := goodIn_sub (fun _ h => List.mem_cons_of_mem _ (List.mem_append_left _ (List.mem_append_left _ (List.mem_append_right _ h)))) (gdV (by decide +kernel) gdwsRX12_work)
theorem gwsRX12_workNumber_1 : GoodIn wsRX12_workNumber (wsV RX12 638 RX12 yX12_hasVariables wsRX12_hasVariables) := goodIn_sub (fun _ h => List.mem_cons_of_mem _ (List.mem_append_left _ (List.mem_append_right _ h))) (gdV (by decide +kernel) gdwsRX12_hasVariables)
theorem gwsRX12_workNumber_2 : GoodIn wsRX12_workNumber (wsV RX12 518 RX12 yX12_faultAt wsRX12_faultAt) := goodIn_sub (fun _ h => List.mem_cons_of_mem _ (List.mem_append_right _ h)) (gdV (by decide +kernel) gdwsRX12_faultAt)
theorem gdwsRX12_workNumber : wsRX12_workNumber.all goodWord = true := gdC rfl (gdA (gdA (gdA (gdA (by decide +kernel : ([.fieldLink RX12 221 "OptimaWorksModel" "partNode" "[I", .fieldLink RX12 515 "OptimaWorksModel" "stop" "I", .fieldLink RX12 659 "OptimaWorksModel" "piled" "I", .fieldLink RX12 224 "OptimaWorksModel" "partFirst" "[I"] : List Cond).all goodWord = true) gdwsX120) (gdV (by decide +kernel) gdwsRX12_work)) (gdV (by decide +kernel) gdwsRX12_hasVariables)) (gdV (by decide +kernel) gdwsRX12_faultAt))
set_option maxHeartbeats 4000000 in
set_option maxRecDepth 100000 in
/-- workNumber(k) -/
theorem r_X12_workNumber (l : Launch) (dC : Nat → ClassId) (dI : Nat → Nat → Nat) (a : Nat → Nat) (k : Nat → ClassId) (h0 : Nat) (vi : Nat → Int32) (vj : Nat → Int64) (vF : Nat → Nat → Int32) (vG : Nat → Nat → Int64) (nF : Nat → Nat → Int32) (V : Nat → Prop) (wt : Nat → Nat) (dp : Nat → Nat) (pd : Nat → Nat) (nN : Nat) (hN : Nat) (se : Nat) (kP : Nat) (hse44 : se ≤ 44) (hSe : SeO (vF 16) (vF 17) se) (hkP : kP < 200) (hpn : vF 66 kP = nI nN) (hlin : (nF 29 nN).toInt ≤ 9) (hVo : VoK nF V wt dp pd se) (hVn : V nN) (hdp : dp nN ≤ 4200) (hpp : hN + pd nN ≤ 80) (hn17 : vF 17 = nF 17) (hn18 : vF 18 = nF 18) (hn19 : vF 19 = nF 19) (hn20 : vF 20 = nF 20) (hn21 : vF 21 = nF 21) (hn24 : vF 24 = nF 24) (hn25 : vF 25 = nF 25) (hn26 : vF 26 = nF 26) (hn27 : vF 27 = nF 27) (hn29 : vF 29 = nF 29) (hn30 : vF 30 = nF 30) (hn31 : vF 31 = nF 31) (hn32 : vF 32 = nF 32) (hn36 : vF 36 = nF 36) (hn37 : vF 37 = nF 37) (hn38 : vF 38 = nF 38) (hEn : EnO (vF 51)) (hPt : PtO (vF 22) (vF 23) (nuF nF)) (hpl : vi 81 = nI hN) (hRw : ∀ v9, v9 < hN → RowU (vF 49) (vF 50) v9) (hst0 : 0 ≤ (vi 21).toInt) (hst1 : (vi 21).toInt ≤ 0) (sz : Nat) : Met l yX12_workNumber wsRX12_workNumber ({ frames := 6, cells := 0, slots := 0, locals := 162 }) (va_Pc [.ref h0, .int (nI kP)] (fun U => U.heap.size = sz ∧ va_P (dC, dI) vwCl (WR a k h0 vi vj vF vG) U.heap ∧ va_K (dC, dI) vwCl (tX12 k) U ∧ va_D (fun _ => True) (WR a k h0 vi vj vF vG))) (va_Qv (fun (u : (Nat → Int32) × (Nat → Int32) × (Nat → Int32) × (Nat → Int32) × (Nat → Int32) × (Nat → Int32) × (Nat) × (Nat) × (Int32) × (Int32) × (Int32) × (Int32)) => (∀ v9, v9 < (u.2.2.2.2.2.2.2.1) → RowU (u.1) (u.2.1) v9) ∧ (EnO (u.2.2.1)) ∧ (0 ≤ ((u.2.2.2.2.2.2.2.2.1)).toInt) ∧ (0 < ((u.2.2.2.2.2.2.2.2.1)).toInt ∨ (u.2.2.2.2.2.2.2.1) = hN + 1)) (fun (u : (Nat → Int32) × (Nat → Int32) × (Nat → Int32) × (Nat → Int32) × (Nat → Int32) × (Nat → Int32) × (Nat) × (Nat) × (Int32) × (Int32) × (Int32) × (Int32)) t => va_P (dC, dI) vwCl (WR a k h0 (fT (fT (fT (fT (fT (fT vi 89 (nI (u.2.2.2.2.2.2.1))) 81 (nI (u.2.2.2.2.2.2.2.1))) 21 (u.2.2.2.2.2.2.2.2.1)) 22 (u.2.2.2.2.2.2.2.2.2.1)) 82 (u.2.2.2.2.2.2.2.2.2.2.1)) 84 (u.2.2.2.2.2.2.2.2.2.2.2)) vj (fT (fT (fT (fT (fT (fT vF 52 (u.2.2.2.1)) 53 (u.2.2.2.2.1)) 49 (u.1)) 50 (u.2.1)) 51 (u.2.2.1)) 54 (u.2.2.2.2.2.1)) vG) t.heap ∧ va_D (va_A (WR a k h0 vi vj vF vG) sz) (WR a k h0 (fT (fT (fT (fT (fT (fT vi 89 (nI (u.2.2.2.2.2.2.1))) 81 (nI (u.2.2.2.2.2.2.2.1))) 21 (u.2.2.2.2.2.2.2.2.1)) 22 (u.2.2.2.2.2.2.2.2.2.1)) 82 (u.2.2.2.2.2.2.2.2.2.2.1)) 84 (u.2.2.2.2.2.2.2.2.2.2.2)) vj (fT (fT (fT (fT (fT (fT vF 52 (u.2.2.2.1)) 53 (u.2.2.2.2.1)) 49 (u.1)) 50 (u.2.1)) 51 (u.2.2.1)) 54 (u.2.2.2.2.2.1)) vG)) (va_A (WR a k h0 vi vj vF vG) sz)) 0 0 (va_A (WR a k h0 vi vj vF vG) sz) := by
  refine Met.ofW (cc := cX12_workNumber) (maxL := 2) (ret := none) (by decide) rfl ?_
  intro p e s m args below meth c s₁ B hml hv
  obtain ⟨rfl, hsz, hP, hK, hD0⟩ := hv
  have hx := B.exec
  have hb := B.bytes
  have hr := B.returns
  have hts := atoms_spec (ws := wsRX12_workNumber) B.pre
  have hown : s.vm.findClass RX12 = some m.cls := findClass_of_methodNamed B.named
  have hlocks := B.notSynchronized
  subst hsz
  have hD := hD0.self (sz := s.heap.size)
  generalize hAe : va_A (WR a k h0 vi vj vF vG) s.heap.size = A at hD ⊢
  have hA : ∀ q : Nat, s.heap.size ≤ q → A q := fun q h => by rw [← hAe]; exact Or.inr h
  have hS : va_S A s.heap s.heap [] := va_S.rf
  have hl := lv_entry ([.ref h0, .int (nI kP)]) (n := 2) (Nat.le_of_ble_eq_true rfl)
  rw [lg_entry_eq]
  generalize (lg_sl ([.ref h0, .int (nI kP)]) ++ List.replicate (2 - (lg_sl ([.ref h0, .int (nI kP)])).length) Slot.unset).toArray = ls at hl ⊢
  have hl : lv_has ls 2 [(0, .ref h0), (1, .int (nI kP))] := hl
  refine lv_aload_n hx hb dX12_workNumber_0 rfl (lv_at hl 0 rfl) ?_
  refine lv_aload_n hx hb dX12_workNumber_1 rfl (lv_at hl 0 rfl) ?_
  refine va_get (D := (dC, dI)) (ci := 12) (v := .ref (a 66)) (C := RX12) (T := TX12) (N := 163) (fs := fM (vS a vi vj)) hx hb hts iwsRX12_workNumber_in12 hown hK hP 0 rfl rfl 106 (by decide) (hts (.fieldLink RX12 221 "OptimaWorksModel" "partNode" "[I") (by decide +kernel)) (fun _ h9 => h9) rfl dX12_workNumber_2 ?_
  refine lv_iload_n hx hb dX12_workNumber_5 rfl (lv_at hl 1 rfl) ?_
  refine va_iald (cA := k 66) (n := 200) (f := (vF 66)) hx hb hK hP 67 66 (WR_get 66 (by decide)) (TR_get 66 (by decide)) (vp_in_nI (show kP < 200 by omega) (by omega)) dX12_workNumber_6 ?_
  refine lv_topi (fun y1 hy1 => ?_)
  obtain rfl : ((vF 66) kP) = y1 := (hy1.trans (by rw [nI_clamp (by omega)])).symm
  refine lv_topi (fun y2 hy2 => ?_)
  obtain rfl : (nI nN) = y2 := (hy2.trans (hpn)).symm
  have hFc := allFree hD hS hA
  refine va_callv (va_runV (As := [.int (nI nN)]) (rest := []) ⟨hx, hb, hml, hown, hts⟩ (r_X12_work l dC dI a k h0 vi vj vF vG nF V wt dp pd nN hN se (by first | with_reducible assumption | decide | omega | rfl | assumption) (by first | with_reducible assumption | decide | omega | rfl | assumption) (by first | with_reducible assumption | decide | omega | rfl | assumption) (by first | with_reducible assumption | decide | omega | rfl | assumption) (by first | with_reducible assumption | decide | omega | rfl | assumption) (by first | with_reducible assumption | decide | omega | rfl | assumption) (by first | with_reducible assumption | decide | omega | rfl | assumption) (by first | with_reducible assumption | decide | omega | rfl | assumption) (by first | with_reducible assumption | decide | omega | rfl | assumption) (by first | with_reducible assumption | decide | omega | rfl | assumption) (by first | with_reducible assumption | decide | omega | rfl | assumption) (by first | with_reducible assumption | decide | omega | rfl | assumption) (by first | with_reducible assumption | decide | omega | rfl | assumption) (by first | with_reducible assumption | decide | omega | rfl | assumption) (by first | with_reducible assumption | decide | omega | rfl | assumption) (by first | with_reducible assumption | decide | omega | rfl | assumption) (by first | with_reducible assumption | decide | omega | rfl | assumption) (by first | with_reducible assumption | decide | omega | rfl | assumption) (by first | with_reducible assumption | decide | omega | rfl | assumption) (by first | with_reducible assumption | decide | omega | rfl | assumption) (by first | with_reducible assumption | decide | omega | rfl | assumption) (by first | with_reducible assumption | decide | omega | rfl | assumption) (by first | with_reducible assumption | decide | omega | rfl | assumption) (by first | with_reducible assumption | decide | omega | rfl | assumption) hpl (by first | with_reducible assumption | decide | omega | rfl | assumption) (by first | with_reducible assumption | decide | omega | rfl | assumption) (by first | with_reducible assumption | decide | omega | rfl | assumption) s.heap.size) (cwV 1 hts gwsRX12_workNumber_0 rfl rfl rfl hd_yX12_work_RX12 (by decide +kernel)) (fz_pre (va_recv hK hP (ci := 12) (q0 := 0) rfl rfl) hP hK hD) rfl rfl hl.1 rfl (lv_room (Nat.le_of_ble_eq_true rfl)) dX12_workNumber_7 (by decide +kernel)) hS (fun q _ h => hFc q h) hFc (fun u t9_ H locs ht hvm hw9 hB9 hz1 hk1 hS => ?_)
  revert u hw9 hB9
  refine fz_p12 ?_
  intro g497 g507 g517 g527 g537 g547 fr27 pq27 s27 p27 sp27 tv27 hw9 hB9
  try dsimp only at hw9 hB9
  have hP : va_P (dC, dI) vwCl (WR a k h0 (fT (fT (fT (fT (fT (fT vi 89 (nI fr27)) 81 (nI pq27)) 21 s27) 22 p27) 82 sp27) 84 tv27) vj (fT (fT (fT (fT (fT (fT vF 52 g527) 53 g537) 49 g497) 50 g507) 51 g517) 54 g547) vG) H := fz_P ht hB9.1
  have hD := fz_sd hP (hB9.2.weaken (fun _ q _ h => hFc q.1 h)) rfl
  revert hw9
  refine fz_a4 ?_
  intro f7_0 f7_1 f7_2 f7_3
  refine lv_aload_n hx hb dX12_workNumber_10 rfl (lv_at hl 0 rfl) ?_
  refine va_get (D := (dC, dI)) (ci := 12) (v := .int s27) (C := RX12) (T := TX12) (N := 163) (fs := fM (vS a (fT (fT (fT (fT (fT (fT vi 89 (nI fr27)) 81 (nI pq27)) 21 s27) 22 p27) 82 sp27) 84 tv27) vj)) hx hb hts iwsRX12_workNumber_in12 hown hK hP 0 rfl rfl 21 (by decide) (hts (.fieldLink RX12 515 "OptimaWorksModel" "stop" "I") (by decide +kernel)) (fun _ h9 => h9) rfl dX12_workNumber_11 ?_
  refine lv_if_ne (tgt := 42) hx hb dX12_workNumber_14 (by decide) (fun c_14 => ?_) (fun c_14 => ?_)
  · have t_14 : (s27).toInt ≠ 0 := toI_ne c_14 rfl (by decide)
    refine W.widen (k := 0) (n := 0) (by decide +kernel) (by decide +kernel) ?_
    exact W.vret hx hb hr (fun t9_ ht hW => ⟨⟨(g497, g507, g517, g527, g537, g547, fr27, pq27, s27, p27, sp27, tv27), rfl, by (try dsimp only); exact ⟨f7_0, f7_1, f7_2, by (rcases f7_3 with h9 | h9 | h9); (exact Or.inl h9); (exact Or.inr h9.1); (exact absurd hlin h9.2)⟩, by rw [ht]; exact hP, hD⟩, hS.F ht⟩) hS.2.2 dX12_workNumber_42
  · have t_14 : (s27).toInt = 0 := toI_nne c_14 rfl (by decide)
    have hpq7 : pq27 = hN + 1 := by (rcases f7_3 with h9 | h9 | h9); (exfalso; omega); (exact h9.1); (exact absurd hlin h9.2)
    refine lv_aload_n hx hb dX12_workNumber_17 rfl (lv_at hl 0 rfl) ?_
    refine lv_aload_n hx hb dX12_workNumber_18 rfl (lv_at hl 0 rfl) ?_
    refine va_get (D := (dC, dI)) (ci := 12) (v := .int (nI pq27)) (C := RX12) (T := TX12) (N := 163) (fs := fM (vS a (fT (fT (fT (fT (fT (fT vi 89 (nI fr27)) 81 (nI pq27)) 21 s27) 22 p27) 82 sp27) 84 tv27) vj)) hx hb hts iwsRX12_workNumber_in12 hown hK hP 0 rfl rfl 81 (by decide) (hts (.fieldLink RX12 659 "OptimaWorksModel" "piled" "I") (by decide +kernel)) (fun _ h9 => h9) rfl dX12_workNumber_19 ?_
    refine lv_iconst (v := 1) hx hb dX12_workNumber_22 (by decide) ?_
    refine lv_isub hx hb dX12_workNumber_23 ?_
    refine lv_topi (fun y3 hy3 => ?_)
    obtain rfl : (nI (pq27 - 1)) = y3 := (hy3.trans (pk_sub (a := pq27) (b := 1) (by omega))).symm
    have hFc := allFree hD hS hA
    refine va_calli (va_runV (As := [.int (nI (pq27 - 1))]) (rest := []) ⟨hx, hb, hml, hown, hts⟩ (r_X12_hasVariables l dC dI a k h0 (fT (fT (fT (fT (fT (fT vi 89 (nI fr27)) 81 (nI pq27)) 21 s27) 22 p27) 82 sp27) 84 tv27) vj (fT (fT (fT (fT (fT (fT vF 52 g527) 53 g537) 49 g497) 50 g507) 51 g517) 54 g547) vG (pq27 - 1) (by first | with_reducible assumption | decide | omega | rfl | assumption) H.size) (cwV 1 hts gwsRX12_workNumber_1 rfl rfl rfl hd_yX12_hasVariables_RX12 (by decide +kernel)) (fz_pre (va_recv hK hP (ci := 12) (q0 := 0) rfl rfl) hP hK hD) rfl rfl hl.1 rfl (lv_room (Nat.le_of_ble_eq_true rfl)) dX12_workNumber_24 (by decide +kernel)) hS (fun q _ h => hFc q h) hFc (fun r24 u t9_ H locs ht hvm hw9 hB9 hz1 hk1 hS => ?_)
    have hP : va_P (dC, dI) vwCl (WR a k h0 (fT (fT (fT (fT (fT (fT vi 89 (nI fr27)) 81 (nI pq27)) 21 s27) 22 p27) 82 sp27) 84 tv27) vj (fT (fT (fT (fT (fT (fT vF 52 g527) 53 g537) 49 g497) 50 g507) 51 g517) 54 g547) vG) H := fz_P ht hB9.1
    have hD := fz_sd hP (hB9.2.weaken (fun _ q _ h => hFc q.1 h)) rfl
    have f24_0 := hw9
    try dsimp only at f24_0
    have f24_0 : ((r24) = 0 ∧ ∀ q, 1 ≤ q → q < 9 → g497 (9 * (pq27 - 1) + q) = 0) ∨ ((r24) = 1 ∧ ∃ q, 1 ≤ q ∧ q < 9 ∧ g497 (9 * (pq27 - 1) + q) ≠ 0) := f24_0
    refine lv_if_eq (tgt := 42) hx hb dX12_workNumber_27 (by decide) (fun c_27 => ?_) (fun c_27 => ?_)
    · have t_27 : (r24).toInt = 0 := toI_eq c_27 rfl (by decide)
      refine W.widen (k := 0) (n := 0) (by decide +kernel) (by decide +kernel) ?_
      exact W.vret hx hb hr (fun t9_ ht hW => ⟨⟨(g497, g507, g517, g527, g537, g547, fr27, pq27, s27, p27, sp27, tv27), rfl, by (try dsimp only); exact ⟨f7_0, f7_1, f7_2, by (rcases f7_3 with h9 | h9 | h9); (exact Or.inl h9); (exact Or.inr h9.1); (exact absurd hlin h9.2)⟩, by rw [ht]; exact hP, hD⟩, hS.F ht⟩) hS.2.2 dX12_workNumber_42
    · have t_27 : ¬ (r24).toInt = 0 := toI_neq c_27 rfl (by decide)
      refine lv_aload_n hx hb dX12_workNumber_30 rfl (lv_at hl 0 rfl) ?_
      refine lv_bipush (v := 7) hx hb dX12_workNumber_31 (by decide) ?_
      refine lv_aload_n hx hb dX12_workNumber_33 rfl (lv_at hl 0 rfl) ?_
      refine va_get (D := (dC, dI)) (ci := 12) (v := .ref (a 67)) (C := RX12) (T := TX12) (N := 163) (fs := fM (vS a (fT (fT (fT (fT (fT (fT vi 89 (nI fr27)) 81 (nI pq27)) 21 s27) 22 p27) 82 sp27) 84 tv27) vj)) hx hb hts iwsRX12_workNumber_in12 hown hK hP 0 rfl rfl 107 (by decide) (hts (.fieldLink RX12 224 "OptimaWorksModel" "partFirst" "[I") (by decide +kernel)) (fun _ h9 => h9) rfl dX12_workNumber_34 ?_
      refine lv_iload_n hx hb dX12_workNumber_37 rfl (lv_at hl 1 rfl) ?_
      refine va_iald (cA := k 67) (n := 200) (f := (vF 67)) hx hb hK hP 68 67 (WR_get 67 (by decide)) (TR_get 67 (by decide)) (vp_in_nI (show kP < 200 by omega) (by omega)) dX12_workNumber_38 ?_
      refine lv_topi (fun y4 hy4 => ?_)
      obtain rfl : ((vF 67) kP) = y4 := (hy4.trans (by rw [nI_clamp (by omega)])).symm
      have hFc := allFree hD hS hA
      refine va_callv (va_runV (As := [.int 7, .int ((vF 67) kP)]) (rest := []) ⟨hx, hb, hml, hown, hts⟩ (r_X12_faultAt l dC dI a k h0 (fT (fT (fT (fT (fT (fT vi 89 (nI fr27)) 81 (nI pq27)) 21 s27) 22 p27) 82 sp27) 84 tv27) vj (fT (fT (fT (fT (fT (fT vF 52 g527) 53 g537) 49 g497) 50 g507) 51 g517) 54 g547) vG 7 ((vF 67) kP) (by first | with_reducible assumption | decide | omega | rfl | assumption) H.size) (cwV 2 hts gwsRX12_workNumber_2 rfl rfl rfl hd_yX12_faultAt_RX12 (by decide +kernel)) (fz_pre (va_recv hK hP (ci := 12) (q0 := 0) rfl rfl) hP hK hD) rfl rfl hl.1 rfl (lv_room (Nat.le_of_ble_eq_true rfl)) dX12_workNumber_39 (by decide +kernel)) hS (fun q _ h => hFc q h) hFc (fun u t9_ H locs ht hvm hw9 hB9 hz1 hk1 hS => ?_)
      revert u hw9 hB9
      refine fz_p2 ?_
      intro s239 p239 hw9 hB9
      try dsimp only at hw9 hB9
      have e9i : fT (fT (fT (fT (fT (fT vi 89 (nI fr27)) 81 (nI pq27)) 21 s239) 22 p239) 82 sp27) 84 tv27 = fT (fT (fT (fT (fT (fT (fT (fT vi 89 (nI fr27)) 81 (nI pq27)) 21 s27) 22 p27) 82 sp27) 84 tv27) 21 s239) 22 p239 := ch_E vi [nI fr27, nI pq27, s239, p239, sp27, tv27, s27, p27] [(84, 6), (82, 5), (22, 4), (21, 3), (81, 2), (89, 1)] [(22, 4), (21, 3), (84, 6), (82, 5), (22, 8), (21, 7), (81, 2), (89, 1)] [] trivial (by decide +kernel)
      have hP := wr_Pi e9i (fz_P ht hB9.1)
      have hD := wr_Di e9i (hB9.2.weaken (fun _ q _ h => hFc q.1 h))
      clear e9i
      revert hw9
      refine fz_a2 ?_
      intro f39_0 f39_1
      have f39_0 : (0 < s27.toInt ∧ s239 = s27 ∧ p239 = p27) ∨ (¬ 0 < s27.toInt ∧ s239 = 7 ∧ p239 = ((vF 67) kP)) := f39_0
      refine W.widen (k := 0) (n := 0) (by decide +kernel) (by decide +kernel) ?_
      exact W.vret hx hb hr (fun t9_ ht hW => ⟨⟨(g497, g507, g517, g527, g537, g547, fr27, pq27, s239, p239, sp27, tv27), rfl, by (try dsimp only); exact ⟨f7_0, f7_1, by omega, Or.inl f39_1⟩, by rw [ht]; exact hP, hD⟩, hS.F ht⟩) hS.2.2 dX12_workNumber_42
theorem dX12_bound_0 : decode cX12_bound 0 = .ok (.aload_n 0, 1) := dk_42 (by decide +kernel)
theorem dX12_bound_1 : decode cX12_bound 1 = .ok (.iload_n 1, 1) := dk_27 (by decide +kernel)
theorem dX12_bound_2 : decode cX12_bound 2 = .ok (.invokevirtual 765, 3) := dk_182 (by decide +kernel)
theorem dX12_bound_5 : decode cX12_bound 5 = .ok (.aload_n 0, 1) := dk_42 (by decide +kernel)
theorem dX12_bound_6 : decode cX12_bound 6 = .ok (.getfield 515, 3) := dk_180 (by decide +kernel)
theorem dX12_bound_9 : decode cX12_bound 9 = .ok (.ifCond .le 5, 3) := dk_158 (by decide +kernel)
theorem dX12_bound_12 : decode cX12_bound 12 = .ok (.iconst 0, 1) := dk_3 (by decide +kernel)
theorem dX12_bound_13 : decode cX12_bound 13 = .ok (.ireturn, 1) := dk_172 (by decide +kernel)
theorem dX12_bound_14 : decode cX12_bound 14 = .ok (.aload_n 0, 1) := dk_42 (by decide +kernel)
theorem dX12_bound_15 : decode cX12_bound 15 = .ok (.dup, 1) := dk_89 (by decide +kernel)
theorem dX12_bound_16 : decode cX12_bound 16 = .ok (.getfield 659, 3) := dk_180 (by decide +kernel)
theorem dX12_bound_19 : decode cX12_bound 19 = .ok (.iconst 1, 1) := dk_4 (by decide +kernel)
theorem dX12_bound_20 : decode cX12_bound 20 = .ok (.isub, 1) := dk_100 (by decide +kernel)
theorem dX12_bound_21 : decode cX12_bound 21 = .ok (.putfield 659, 3) := dk_181 (by decide +kernel)
theorem dX12_bound_24 : decode cX12_bound 24 = .ok (.aload_n 0, 1) := dk_42 (by decide +kernel)
theorem dX12_bound_25 : decode cX12_bound 25 = .ok (.getfield 173, 3) := dk_180 (by decide +kernel)
theorem dX12_bound_28 : decode cX12_bound 28 = .ok (.bipush 9, 2) := dk_16 (by decide +kernel)
theorem dX12_bound_30 : decode cX12_bound 30 = .ok (.aload_n 0, 1) := dk_42 (by decide +kernel)
theorem dX12_bound_31 : decode cX12_bound 31 = .ok (.getfield 659, 3) := dk_180 (by decide +kernel)
theorem dX12_bound_34 : decode cX12_bound 34 = .ok (.imul, 1) := dk_104 (by decide +kernel)
theorem dX12_bound_35 : decode cX12_bound 35 = .ok (.iaload, 1) := dk_46 (by decide +kernel)
theorem dX12_bound_36 : decode cX12_bound 36 = .ok (.iconst 1, 1) := dk_4 (by decide +kernel)
theorem dX12_bound_37 : decode cX12_bound 37 = .ok (.if_icmp .ne 39, 3) := dk_160 (by decide +kernel)
theorem dX12_bound_40 : decode cX12_bound 40 = .ok (.aload_n 0, 1) := dk_42 (by decide +kernel)
theorem dX12_bound_41 : decode cX12_bound 41 = .ok (.getfield 170, 3) := dk_180 (by decide +kernel)
theorem dX12_bound_44 : decode cX12_bound 44 = .ok (.bipush 9, 2) := dk_16 (by decide +kernel)
theorem dX12_bound_46 : decode cX12_bound 46 = .ok (.aload_n 0, 1) := dk_42 (by decide +kernel)
theorem dX12_bound_47 : decode cX12_bound 47 = .ok (.getfield 659, 3) := dk_180 (by decide +kernel)
theorem dX12_bound_50 : decode cX12_bound 50 = .ok (.imul, 1) := dk_104 (by decide +kernel)
theorem dX12_bound_51 : decode cX12_bound 51 = .ok (.iaload, 1) := dk_46 (by decide +kernel)
theorem dX12_bound_52 : decode cX12_bound 52 = .ok (.sipush 999, 3) := dk_17 (by decide +kernel)
theorem dX12_bound_55 : decode cX12_bound 55 = .ok (.if_icmp .gt 21, 3) := dk_163 (by decide +kernel)
theorem dX12_bound_58 : decode cX12_bound 58 = .ok (.aload_n 0, 1) := dk_42 (by decide +kernel)
theorem dX12_bound_59 : decode cX12_bound 59 = .ok (.getfield 170, 3) := dk_180 (by decide +kernel)
theorem dX12_bound_62 : decode cX12_bound 62 = .ok (.bipush 9, 2) := dk_16 (by decide +kernel)
theorem dX12_bound_64 : decode cX12_bound 64 = .ok (.aload_n 0, 1) := dk_42 (by decide +kernel)
theorem dX12_bound_65 : decode cX12_bound 65 = .ok (.getfield 659, 3) := dk_180 (by decide +kernel)
theorem dX12_bound_68 : decode cX12_bound 68 = .ok (.imul, 1) := dk_104 (by decide +kernel)
theorem dX12_bound_69 : decode cX12_bound 69 = .ok (.iaload, 1) := dk_46 (by decide +kernel)
theorem dX12_bound_70 : decode cX12_bound 70 = .ok (.sipush (-999), 3) := dk_17 (by decide +kernel)
theorem dX12_bound_73 : decode cX12_bound 73 = .ok (.if_icmp .ge 15, 3) := dk_162 (by decide +kernel)
theorem dX12_bound_76 : decode cX12_bound 76 = .ok (.aload_n 0, 1) := dk_42 (by decide +kernel)
theorem dX12_bound_77 : decode cX12_bound 77 = .ok (.bipush 9, 2) := dk_16 (by decide +kernel)
theorem dX12_bound_79 : decode cX12_bound 79 = .ok (.aload_n 0, 1) := dk_42 (by decide +kernel)
theorem dX12_bound_80 : decode cX12_bound 80 = .ok (.getfield 224, 3) := dk_180 (by decide +kernel)
theorem dX12_bound_83 : decode cX12_bound 83 = .ok (.iload_n 1, 1) := dk_27 (by decide +kernel)
theorem dX12_bound_84 : decode cX12_bound 84 = .ok (.iaload, 1) := dk_46 (by decide +kernel)
theorem dX12_bound_85 : decode cX12_bound 85 = .ok (.invokevirtual 518, 3) := dk_182 (by decide +kernel)
theorem dX12_bound_88 : decode cX12_bound 88 = .ok (.aload_n 0, 1) := dk_42 (by decide +kernel)
theorem dX12_bound_89 : decode cX12_bound 89 = .ok (.getfield 515, 3) := dk_180 (by decide +kernel)
theorem dX12_bound_92 : decode cX12_bound 92 = .ok (.ifCond .le 7, 3) := dk_158 (by decide +kernel)
theorem dX12_bound_95 : decode cX12_bound 95 = .ok (.iconst 0, 1) := dk_3 (by decide +kernel)
theorem dX12_bound_96 : decode cX12_bound 96 = .ok (.goto 15, 3) := dk_167 (by decide +kernel)
theorem dX12_bound_99 : decode cX12_bound 99 = .ok (.aload_n 0, 1) := dk_42 (by decide +kernel)
theorem dX12_bound_100 : decode cX12_bound 100 = .ok (.getfield 170, 3) := dk_180 (by decide +kernel)
theorem dX12_bound_103 : decode cX12_bound 103 = .ok (.bipush 9, 2) := dk_16 (by decide +kernel)
theorem dX12_bound_105 : decode cX12_bound 105 = .ok (.aload_n 0, 1) := dk_42 (by decide +kernel)
theorem dX12_bound_106 : decode cX12_bound 106 = .ok (.getfield 659, 3) := dk_180 (by decide +kernel)
theorem dX12_bound_109 : decode cX12_bound 109 = .ok (.imul, 1) := dk_104 (by decide +kernel)
theorem dX12_bound_110 : decode cX12_bound 110 = .ok (.iaload, 1) := dk_46 (by decide +kernel)
theorem dX12_bound_111 : decode cX12_bound 111 = .ok (.ireturn, 1) := dk_172 (by decide +kernel)
def wsRX12_bound : List Cond := .code yX12_bound cX12_bound 2 (some .int) :: ([.fieldLink RX12 515 "OptimaWorksModel" "stop" "I", .fieldLink RX12 659 "OptimaWorksModel" "piled" "I", .fieldLink RX12 173 "OptimaWorksModel" "under" "[I", .fieldLink RX12 224 "OptimaWorksModel" "partFirst" "[I", .fieldLink RX12 170 "OptimaWorksModel" "top" "[I"] ++ wsX120 ++ (wsV RX12 765 RX12 yX12_workNumber wsRX12_workNumber) ++ (wsV RX12 518 RX12 yX12_faultAt wsRX12_faultAt))
theorem iwsRX12_bound_in12 : ∀ w ∈ wsX120, w ∈ wsRX12_bound := fun _ h => List.mem_cons_of_mem _ (List.mem_append_left _ (List.mem_append_left _ (List.mem_append_right _ h)))
theorem gwsRX12_bound_0 : GoodIn wsRX12_bound (wsV RX12 765 RX12 yX12_workNumber wsRX12_workNumber) := goodIn_sub (fun _ h => List.mem_cons_of_mem _ (List.mem_append_left _ (List.mem_append_right _ h))) (gdV (by decide +kernel) gdwsRX12_workNumber)
theorem gwsRX12_bound_1 : GoodIn wsRX12_bound (wsV RX12 518 RX12 yX12_faultAt wsRX12_faultAt) := goodIn_sub (fun _ h => List.mem_cons_of_mem _ (List.mem_append_right _ h)) (gdV (by decide +kernel) gdwsRX12_faultAt)
theorem gdwsRX12_bound : wsRX12_bound.all goodWord = true := gdC rfl (gdA (gdA (gdA (by decide +kernel : ([.fieldLink RX12 515 "OptimaWorksModel" "stop" "I", .fieldLink RX12 659 "OptimaWorksModel" "piled" "I", .fieldLink RX12 173 "OptimaWorksModel" "under" "[I", .fieldLink RX12 224 "OptimaWorksModel" "partFirst" "[I", .fieldLink RX12 170 "OptimaWorksModel" "top" "[I"] : List Cond).all goodWord = true) gdwsX120) (gdV (by decide +kernel) gdwsRX12_workNumber)) (gdV (by decide +kernel) gdwsRX12_faultAt))
theorem hm_r_X12_bound_0 : (.fieldLink RX12 515 "OptimaWorksModel" "stop" "I" : Cond) ∈ wsRX12_bound := by decide +kernel
theorem hm_r_X12_bound_1 : (.fieldLink RX12 659 "OptimaWorksModel" "piled" "I" : Cond) ∈ wsRX12_bound := by decide +kernel
theorem hm_r_X12_bound_2 : (.fieldLink RX12 224 "OptimaWorksModel" "partFirst" "[I" : Cond) ∈ wsRX12_bound := by decide +kernel
theorem hm_r_X12_bound_3 : (.fieldLink RX12 170 "OptimaWorksModel" "top" "[I" : Cond) ∈ wsRX12_bound := by decide +kernel
set_option maxHeartbeats 4000000 in
set_option maxRecDepth 100000 in
/-- bound(k) -/
theorem r_X12_bound (l : Launch) (dC : Nat → ClassId) (dI : Nat → Nat → Nat) (a : Nat → Nat) (k : Nat → ClassId) (h0 : Nat) (vi : Nat → Int32) (vj : Nat → Int64) (vF : Nat → Nat → Int32) (vG : Nat → Nat → Int64) (nF : Nat → Nat → Int32) (V : Nat → Prop) (wt : Nat → Nat) (dp : Nat → Nat) (pd : Nat → Nat) (nN : Nat) (hN : Nat) (se : Nat) (kP : Nat) (hse44 : se ≤ 44) (hSe : SeO (vF 16) (vF 17) se) (hkP : kP < 200) (hpn : vF 66 kP = nI nN) (hlin : (nF 29 nN).toInt ≤ 9) (hVo : VoK nF V wt dp pd se) (hVn : V nN) (hdp : dp nN ≤ 4200) (hpp : hN + pd nN ≤ 80) (hn17 : vF 17 = nF 17) (hn18 : vF 18 = nF 18) (hn19 : vF 19 = nF 19) (hn20 : vF 20 = nF 20) (hn21 : vF 21 = nF 21) (hn24 : vF 24 = nF 24) (hn25 : vF 25 = nF 25) (hn26 : vF 26 = nF 26) (hn27 : vF 27 = nF 27) (hn29 : vF 29 = nF 29) (hn30 : vF 30 = nF 30) (hn31 : vF 31 = nF 31) (hn32 : vF 32 = nF 32) (hn36 : vF 36 = nF 36) (hn37 : vF 37 = nF 37) (hn38 : vF 38 = nF 38) (hEn : EnO (vF 51)) (hPt : PtO (vF 22) (vF 23) (nuF nF)) (hpl : vi 81 = nI hN) (hRw : ∀ v9, v9 < hN → RowU (vF 49) (vF 50) v9) (hst0 : 0 ≤ (vi 21).toInt) (hst1 : (vi 21).toInt ≤ 0) (sz : Nat) : Met l yX12_bound wsRX12_bound ({ frames := 7, cells := 0, slots := 0, locals := 183 }) (va_Pc [.ref h0, .int (nI kP)] (fun U => U.heap.size = sz ∧ va_P (dC, dI) vwCl (WR a k h0 vi vj vF vG) U.heap ∧ va_K (dC, dI) vwCl (tX12 k) U ∧ va_D (fun _ => True) (WR a k h0 vi vj vF vG))) (va_Qi (fun (r : Int32) (u : (Nat → Int32) × (Nat → Int32) × (Nat → Int32) × (Nat → Int32) × (Nat → Int32) × (Nat → Int32) × (Nat) × (Nat) × (Int32) × (Int32) × (Int32) × (Int32)) => (∀ v9, v9 < (u.2.2.2.2.2.2.2.1) → RowU (u.1) (u.2.1) v9) ∧ (EnO (u.2.2.1)) ∧ (0 ≤ ((u.2.2.2.2.2.2.2.2.1)).toInt) ∧ (0 < ((u.2.2.2.2.2.2.2.2.1)).toInt ∨ ((u.2.2.2.2.2.2.2.1) = hN ∧ -999 ≤ (r).toInt ∧ (r).toInt ≤ 999))) (fun (u : (Nat → Int32) × (Nat → Int32) × (Nat → Int32) × (Nat → Int32) × (Nat → Int32) × (Nat → Int32) × (Nat) × (Nat) × (Int32) × (Int32) × (Int32) × (Int32)) t => va_P (dC, dI) vwCl (WR a k h0 (fT (fT (fT (fT (fT (fT vi 89 (nI (u.2.2.2.2.2.2.1))) 81 (nI (u.2.2.2.2.2.2.2.1))) 21 (u.2.2.2.2.2.2.2.2.1)) 22 (u.2.2.2.2.2.2.2.2.2.1)) 82 (u.2.2.2.2.2.2.2.2.2.2.1)) 84 (u.2.2.2.2.2.2.2.2.2.2.2)) vj (fT (fT (fT (fT (fT (fT vF 52 (u.2.2.2.1)) 53 (u.2.2.2.2.1)) 49 (u.1)) 50 (u.2.1)) 51 (u.2.2.1)) 54 (u.2.2.2.2.2.1)) vG) t.heap ∧ va_D (va_A (WR a k h0 vi vj vF vG) sz) (WR a k h0 (fT (fT (fT (fT (fT (fT vi 89 (nI (u.2.2.2.2.2.2.1))) 81 (nI (u.2.2.2.2.2.2.2.1))) 21 (u.2.2.2.2.2.2.2.2.1)) 22 (u.2.2.2.2.2.2.2.2.2.1)) 82 (u.2.2.2.2.2.2.2.2.2.2.1)) 84 (u.2.2.2.2.2.2.2.2.2.2.2)) vj (fT (fT (fT (fT (fT (fT vF 52 (u.2.2.2.1)) 53 (u.2.2.2.2.1)) 49 (u.1)) 50 (u.2.1)) 51 (u.2.2.1)) 54 (u.2.2.2.2.2.1)) vG)) (va_A (WR a k h0 vi vj vF vG) sz)) 0 0 (va_A (WR a k h0 vi vj vF vG) sz) := by
  refine Met.ofW (cc := cX12_bound) (maxL := 2) (ret := (some .int)) (by decide) rfl ?_
  intro p e s m args below meth c s₁ B hml hv
  obtain ⟨rfl, hsz, hP, hK, hD0⟩ := hv
  have hx := B.exec
  have hb := B.bytes
  have hr := B.returns
  have hts := atoms_spec (ws := wsRX12_bound) B.pre
  have hown : s.vm.findClass RX12 = some m.cls := findClass_of_methodNamed B.named
  have hlocks := B.notSynchronized
  subst hsz
  have hD := hD0.self (sz := s.heap.size)
  generalize hAe : va_A (WR a k h0 vi vj vF vG) s.heap.size = A at hD ⊢
  have hA : ∀ q : Nat, s.heap.size ≤ q → A q := fun q h => by rw [← hAe]; exact Or.inr h
  have hS : va_S A s.heap s.heap [] := va_S.rf
  have hl := lv_entry ([.ref h0, .int (nI kP)]) (n := 2) (Nat.le_of_ble_eq_true rfl)
  rw [lg_entry_eq]
  generalize (lg_sl ([.ref h0, .int (nI kP)]) ++ List.replicate (2 - (lg_sl ([.ref h0, .int (nI kP)])).length) Slot.unset).toArray = ls at hl ⊢
  have hl : lv_has ls 2 [(0, .ref h0), (1, .int (nI kP))] := hl
  refine lv_aload_n hx hb dX12_bound_0 rfl (lv_at hl 0 rfl) ?_
  refine lv_iload_n hx hb dX12_bound_1 rfl (lv_at hl 1 rfl) ?_
  have hFc := allFree hD hS hA
  refine va_callv (va_runV (As := [.int (nI kP)]) (rest := []) ⟨hx, hb, hml, hown, hts⟩ (r_X12_workNumber l dC dI a k h0 vi vj vF vG nF V wt dp pd nN hN se kP (by first | with_reducible assumption | decide | omega | rfl | assumption) (by first | with_reducible assumption | decide | omega | rfl | assumption) (by first | with_reducible assumption | decide | omega | rfl | assumption) (by first | with_reducible assumption | decide | omega | rfl | assumption) (by first | with_reducible assumption | decide | omega | rfl | assumption) (by first | with_reducible assumption | decide | omega | rfl | assumption) (by first | with_reducible assumption | decide | omega | rfl | assumption) (by first | with_reducible assumption | decide | omega | rfl | assumption) (by first | with_reducible assumption | decide | omega | rfl | assumption) (by first | with_reducible assumption | decide | omega | rfl | assumption) (by first | with_reducible assumption | decide | omega | rfl | assumption) (by first | with_reducible assumption | decide | omega | rfl | assumption) (by first | with_reducible assumption | decide | omega | rfl | assumption) (by first | with_reducible assumption | decide | omega | rfl | assumption) (by first | with_reducible assumption | decide | omega | rfl | assumption) (by first | with_reducible assumption | decide | omega | rfl | assumption) (by first | with_reducible assumption | decide | omega | rfl | assumption) (by first | with_reducible assumption | decide | omega | rfl | assumption) (by first | with_reducible assumption | decide | omega | rfl | assumption) (by first | with_reducible assumption | decide | omega | rfl | assumption) (by first | with_reducible assumption | decide | omega | rfl | assumption) (by first | with_reducible assumption | decide | omega | rfl | assumption) (by first | with_reducible assumption | decide | omega | rfl | assumption) (by first | with_reducible assumption | decide | omega | rfl | assumption) (by first | with_reducible assumption | decide | omega | rfl | assumption) (by first | with_reducible assumption | decide | omega | rfl | assumption) (by first | with_reducible assumption | decide | omega | rfl | assumption) hpl (by first | with_reducible assumption | decide | omega | rfl | assumption) (by first | with_reducible assumption | decide | omega | rfl | assumption) (by first | with_reducible assumption | decide | omega | rfl | assumption) s.heap.size) (cwV 1 hts gwsRX12_bound_0 rfl rfl rfl hd_yX12_workNumber_RX12 (by decide +kernel)) (fz_pre (va_recv hK hP (ci := 12) (q0 := 0) rfl rfl) hP hK hD) rfl rfl hl.1 rfl (lv_room (Nat.le_of_ble_eq_true rfl)) dX12_bound_2 (by decide +kernel)) hS (fun q _ h => hFc q h) hFc (fun u t9_ H locs ht hvm hw9 hB9 hz1 hk1 hS => ?_)
  revert u hw9 hB9
  refine fz_p12 ?_
  intro g492 g502 g512 g522 g532 g542 fr22 pq22 s22 p22 sp22 tv22 hw9 hB9
  try dsimp only at hw9 hB9
  have hP : va_P (dC, dI) vwCl (WR a k h0 (fT (fT (fT (fT (fT (fT vi 89 (nI fr22)) 81 (nI pq22)) 21 s22) 22 p22) 82 sp22) 84 tv22) vj (fT (fT (fT (fT (fT (fT vF 52 g522) 53 g532) 49 g492) 50 g502) 51 g512) 54 g542) vG) H := fz_P ht hB9.1
  have hD := fz_sd hP (hB9.2.weaken (fun _ q _ h => hFc q.1 h)) rfl
  revert hw9
  refine fz_a4 ?_
  intro f2_0 f2_1 f2_2 f2_3
  refine lv_aload_n hx hb dX12_bound_5 rfl (lv_at hl 0 rfl) ?_
  refine va_get (D := (dC, dI)) (ci := 12) (v := .int s22) (C := RX12) (T := TX12) (N := 163) (fs := fM (vS a (fT (fT (fT (fT (fT (fT vi 89 (nI fr22)) 81 (nI pq22)) 21 s22) 22 p22) 82 sp22) 84 tv22) vj)) hx hb hts iwsRX12_bound_in12 hown hK hP 0 rfl rfl 21 (by decide) (hts _ hm_r_X12_bound_0) (fun _ h9 => h9) rfl dX12_bound_6 ?_
  refine lv_if_le (tgt := 14) hx hb dX12_bound_9 (by decide) (fun c_9 => ?_) (fun c_9 => ?_)
  · have t_9 : (s22).toInt ≤ 0 := toI_le c_9 rfl (by decide)
    have hpq2 : pq22 = hN + 1 := f2_3.resolve_left (by omega)
    refine lv_aload_n hx hb dX12_bound_14 rfl (lv_at hl 0 rfl) ?_
    refine lv_dup hx hb dX12_bound_15 rfl ?_
    refine va_get (D := (dC, dI)) (ci := 12) (v := .int (nI pq22)) (C := RX12) (T := TX12) (N := 163) (fs := fM (vS a (fT (fT (fT (fT (fT (fT vi 89 (nI fr22)) 81 (nI pq22)) 21 s22) 22 p22) 82 sp22) 84 tv22) vj)) hx hb hts iwsRX12_bound_in12 hown hK hP 0 rfl rfl 81 (by decide) (hts _ hm_r_X12_bound_1) (fun _ h9 => h9) rfl dX12_bound_16 ?_
    refine lv_iconst (v := 1) hx hb dX12_bound_19 (by decide) ?_
    refine lv_isub hx hb dX12_bound_20 ?_
    refine lv_topi (fun y1 hy1 => ?_)
    obtain rfl : (nI (pq22 - 1)) = y1 := (hy1.trans (pk_sub (a := pq22) (b := 1) (by omega))).symm
    refine va_put (D := (dC, dI)) (ci := 12) (v := .int (nI (pq22 - 1))) (ty := .int) (C := RX12) (T := TX12) (N := 163) (fs := fM (vS a (fT (fT (fT (fT (fT (fT vi 89 (nI fr22)) 81 (nI pq22)) 21 s22) 22 p22) 82 sp22) 84 tv22) vj)) hx hb hts iwsRX12_bound_in12 tyX12 tyX12_ok nmX12 hown hK hP hD hS 0 rfl rfl 81 (by decide) (hts _ hm_r_X12_bound_1) (fun _ h9 => h9) rfl (by decide +kernel) rfl rfl (Nat.le_of_ble_eq_true rfl) dX12_bound_21 (fun H locs hP hD hS => ?_)
    have e9 : fT (fT (fT (fT (fT (fT vi 89 (nI fr22)) 81 (nI (pq22 - 1))) 21 s22) 22 p22) 82 sp22) 84 tv22 = fT (fT (fT (fT (fT (fT (fT vi 89 (nI fr22)) 81 (nI pq22)) 21 s22) 22 p22) 82 sp22) 84 tv22) 81 (nI (pq22 - 1)) := ((fT_sw _ _ _ (Nat.ne_of_beq_eq_false rfl)).trans (congrArg (fun g9 => fT g9 84 tv22) ((fT_sw _ _ _ (Nat.ne_of_beq_eq_false rfl)).trans (congrArg (fun g9 => fT g9 82 sp22) ((fT_sw _ _ _ (Nat.ne_of_beq_eq_false rfl)).trans (congrArg (fun g9 => fT g9 22 p22) ((fT_sw _ _ _ (Nat.ne_of_beq_eq_false rfl)).trans (congrArg (fun g9 => fT g9 21 s22) (fT_sm _ _ _ _))))))))).symm
    have hP := wr_Pi e9 (fz_w (WR_i 81 _ rfl) hP)
    have hD := wr_Di e9 (fz_wD (WR_i 81 _ rfl) hD)
    clear e9
    refine lv_aload_n hx hb dX12_bound_24 rfl (lv_at hl 0 rfl) ?_
    refine va_get (D := (dC, dI)) (ci := 12) (v := .ref (a 50)) (C := RX12) (T := TX12) (N := 163) (fs := fM (vS a (fT (fT (fT (fT (fT (fT vi 89 (nI fr22)) 81 (nI (pq22 - 1))) 21 s22) 22 p22) 82 sp22) 84 tv22) vj)) hx hb hts iwsRX12_bound_in12 hown hK hP 0 rfl rfl 79 (by decide) (hts (.fieldLink RX12 173 "OptimaWorksModel" "under" "[I") (by decide +kernel)) (fun _ h9 => h9) rfl dX12_bound_25 ?_
    refine lv_bipush (v := 9) hx hb dX12_bound_28 (by decide) ?_
    refine lv_aload_n hx hb dX12_bound_30 rfl (lv_at hl 0 rfl) ?_
    refine va_get (D := (dC, dI)) (ci := 12) (v := .int (nI (pq22 - 1))) (C := RX12) (T := TX12) (N := 163) (fs := fM (vS a (fT (fT (fT (fT (fT (fT vi 89 (nI fr22)) 81 (nI (pq22 - 1))) 21 s22) 22 p22) 82 sp22) 84 tv22) vj)) hx hb hts iwsRX12_bound_in12 hown hK hP 0 rfl rfl 81 (by decide) (hts _ hm_r_X12_bound_1) (fun _ h9 => h9) rfl dX12_bound_31 ?_
    refine lv_imul hx hb dX12_bound_34 ?_
    refine lv_topi (fun y2 hy2 => ?_)
    obtain rfl : (nI (9 * (pq22 - 1))) = y2 := (hy2.trans (pk_mul 9 (pq22 - 1))).symm
    refine va_iald (cA := k 50) (n := 900) (f := g502) hx hb hK hP 51 50 (WR_get 50 (by decide)) (TR_get 50 (by decide)) (vp_in_nI (show (9 * (pq22 - 1)) < 900 by omega) (by omega)) dX12_bound_35 ?_
    refine lv_topi (fun y3 hy3 => ?_)
    obtain rfl : (g502 (9 * (pq22 - 1))) = y3 := (hy3.trans (by rw [nI_clamp (by omega)])).symm
    refine lv_iconst (v := 1) hx hb dX12_bound_36 (by decide) ?_
    refine lv_icmp_ne (tgt := 76) hx hb dX12_bound_37 (by decide) (fun c_37 => ?_) (fun c_37 => ?_)
    · have t_37 : ((g502 (9 * (pq22 - 1)))).toInt ≠ 1 := toI_ne c_37 rfl (by decide)
      refine lv_aload_n hx hb dX12_bound_76 rfl (lv_at hl 0 rfl) ?_
      refine lv_bipush (v := 9) hx hb dX12_bound_77 (by decide) ?_
      refine lv_aload_n hx hb dX12_bound_79 rfl (lv_at hl 0 rfl) ?_
      refine va_get (D := (dC, dI)) (ci := 12) (v := .ref (a 67)) (C := RX12) (T := TX12) (N := 163) (fs := fM (vS a (fT (fT (fT (fT (fT (fT vi 89 (nI fr22)) 81 (nI (pq22 - 1))) 21 s22) 22 p22) 82 sp22) 84 tv22) vj)) hx hb hts iwsRX12_bound_in12 hown hK hP 0 rfl rfl 107 (by decide) (hts _ hm_r_X12_bound_2) (fun _ h9 => h9) rfl dX12_bound_80 ?_
      refine lv_iload_n hx hb dX12_bound_83 rfl (lv_at hl 1 rfl) ?_
      refine va_iald (cA := k 67) (n := 200) (f := (vF 67)) hx hb hK hP 68 67 (WR_get 67 (by decide)) (TR_get 67 (by decide)) (vp_in_nI (show kP < 200 by omega) (by omega)) dX12_bound_84 ?_
      refine lv_topi (fun y4 hy4 => ?_)
      obtain rfl : ((vF 67) kP) = y4 := (hy4.trans (by rw [nI_clamp (by omega)])).symm
      have hFc := allFree hD hS hA
      refine va_callv (va_runV (As := [.int 9, .int ((vF 67) kP)]) (rest := []) ⟨hx, hb, hml, hown, hts⟩ (r_X12_faultAt l dC dI a k h0 (fT (fT (fT (fT (fT (fT vi 89 (nI fr22)) 81 (nI (pq22 - 1))) 21 s22) 22 p22) 82 sp22) 84 tv22) vj (fT (fT (fT (fT (fT (fT vF 52 g522) 53 g532) 49 g492) 50 g502) 51 g512) 54 g542) vG 9 ((vF 67) kP) (by first | with_reducible assumption | decide | omega | rfl | assumption) H.size) (cwV 2 hts gwsRX12_bound_1 rfl rfl rfl hd_yX12_faultAt_RX12 (by decide +kernel)) (fz_pre (va_recv hK hP (ci := 12) (q0 := 0) rfl rfl) hP hK hD) rfl rfl hl.1 rfl (lv_room (Nat.le_of_ble_eq_true rfl)) dX12_bound_85 (by decide +kernel)) hS (fun q _ h => hFc q h) hFc (fun u t9_ H locs ht hvm hw9 hB9 hz1 hk1 hS => ?_)
      revert u hw9 hB9
      refine fz_p2 ?_
      intro s285 p285 hw9 hB9
      try dsimp only at hw9 hB9
      have e9i : fT (fT (fT (fT (fT (fT vi 89 (nI fr22)) 81 (nI (pq22 - 1))) 21 s285) 22 p285) 82 sp22) 84 tv22 = fT (fT (fT (fT (fT (fT (fT (fT vi 89 (nI fr22)) 81 (nI (pq22 - 1))) 21 s22) 22 p22) 82 sp22) 84 tv22) 21 s285) 22 p285 := ch_E vi [nI fr22, nI (pq22 - 1), s285, p285, sp22, tv22, s22, p22] [(84, 6), (82, 5), (22, 4), (21, 3), (81, 2), (89, 1)] [(22, 4), (21, 3), (84, 6), (82, 5), (22, 8), (21, 7), (81, 2), (89, 1)] [] trivial (by decide +kernel)
      have hP := wr_Pi e9i (fz_P ht hB9.1)
      have hD := wr_Di e9i (hB9.2.weaken (fun _ q _ h => hFc q.1 h))
      clear e9i
      revert hw9
      refine fz_a2 ?_
      intro f85_0 f85_1
      have f85_0 : (0 < s22.toInt ∧ s285 = s22 ∧ p285 = p22) ∨ (¬ 0 < s22.toInt ∧ s285 = 9 ∧ p285 = ((vF 67) kP)) := f85_0
      refine lv_aload_n hx hb dX12_bound_88 rfl (lv_at hl 0 rfl) ?_
      refine va_get (D := (dC, dI)) (ci := 12) (v := .int s285) (C := RX12) (T := TX12) (N := 163) (fs := fM (vS a (fT (fT (fT (fT (fT (fT vi 89 (nI fr22)) 81 (nI (pq22 - 1))) 21 s285) 22 p285) 82 sp22) 84 tv22) vj)) hx hb hts iwsRX12_bound_in12 hown hK hP 0 rfl rfl 21 (by decide) (hts _ hm_r_X12_bound_0) (fun _ h9 => h9) rfl dX12_bound_89 ?_
      refine lv_if_le (tgt := 99) hx hb dX12_bound_92 (by decide) (fun c_92 => ?_) (fun c_92 => ?_)
      · have t_92 : (s285).toInt ≤ 0 := toI_le c_92 rfl (by decide)
        refine lv_aload_n hx hb dX12_bound_99 rfl (lv_at hl 0 rfl) ?_
        refine va_get (D := (dC, dI)) (ci := 12) (v := .ref (a 49)) (C := RX12) (T := TX12) (N := 163) (fs := fM (vS a (fT (fT (fT (fT (fT (fT vi 89 (nI fr22)) 81 (nI (pq22 - 1))) 21 s285) 22 p285) 82 sp22) 84 tv22) vj)) hx hb hts iwsRX12_bound_in12 hown hK hP 0 rfl rfl 78 (by decide) (hts _ hm_r_X12_bound_3) (fun _ h9 => h9) rfl dX12_bound_100 ?_
        refine lv_bipush (v := 9) hx hb dX12_bound_103 (by decide) ?_
        refine lv_aload_n hx hb dX12_bound_105 rfl (lv_at hl 0 rfl) ?_
        refine va_get (D := (dC, dI)) (ci := 12) (v := .int (nI (pq22 - 1))) (C := RX12) (T := TX12) (N := 163) (fs := fM (vS a (fT (fT (fT (fT (fT (fT vi 89 (nI fr22)) 81 (nI (pq22 - 1))) 21 s285) 22 p285) 82 sp22) 84 tv22) vj)) hx hb hts iwsRX12_bound_in12 hown hK hP 0 rfl rfl 81 (by decide) (hts _ hm_r_X12_bound_1) (fun _ h9 => h9) rfl dX12_bound_106 ?_
        refine lv_imul hx hb dX12_bound_109 ?_
        refine lv_topi (fun y5 hy5 => ?_)
        obtain rfl : (nI (9 * (pq22 - 1))) = y5 := (hy5.trans (pk_mul 9 (pq22 - 1))).symm
        refine va_iald (cA := k 49) (n := 900) (f := g492) hx hb hK hP 50 49 (WR_get 49 (by decide)) (TR_get 49 (by decide)) (vp_in_nI (show (9 * (pq22 - 1)) < 900 by omega) (by omega)) dX12_bound_110 ?_
        refine lv_topi (fun y6 hy6 => ?_)
        obtain rfl : (g492 (9 * (pq22 - 1))) = y6 := (hy6.trans (by rw [nI_clamp (by omega)])).symm
        refine W.widen (k := 0) (n := 0) (by decide +kernel) (by decide +kernel) ?_
        exact W.iret (v := (g492 (9 * (pq22 - 1)))) hx hb hr (fun t9_ ht hW => ⟨⟨(g492 (9 * (pq22 - 1))), (g492, g502, g512, g522, g532, g542, fr22, (pq22 - 1), s285, p285, sp22, tv22), rfl, by (try dsimp only); exact ⟨fun v9 h9 => f2_0 v9 (by omega), f2_1, by omega, Or.inr ⟨by omega, by omega⟩⟩, by rw [ht]; exact hP, hD⟩, hS.F ht⟩) hS.2.2 dX12_bound_111
      · have t_92 : ¬ (s285).toInt ≤ 0 := toI_nle c_92 rfl (by decide)
        refine lv_iconst (v := 0) hx hb dX12_bound_95 (by decide) ?_
        refine lv_goto (tgt := 111) hx hb dX12_bound_96 (by decide) ?_
        refine W.widen (k := 0) (n := 0) (by decide +kernel) (by decide +kernel) ?_
        exact W.iret (v := 0) hx hb hr (fun t9_ ht hW => ⟨⟨0, (g492, g502, g512, g522, g532, g542, fr22, (pq22 - 1), s285, p285, sp22, tv22), rfl, by (try dsimp only); exact ⟨fun v9 h9 => f2_0 v9 (by omega), f2_1, by omega, Or.inl (by omega)⟩, by rw [ht]; exact hP, hD⟩, hS.F ht⟩) hS.2.2 dX12_bound_111
    · have t_37 : ((g502 (9 * (pq22 - 1)))).toInt = 1 := toI_nne c_37 rfl (by decide)
      refine lv_aload_n hx hb dX12_bound_40 rfl (lv_at hl 0 rfl) ?_
      refine va_get (D := (dC, dI)) (ci := 12) (v := .ref (a 49)) (C := RX12) (T := TX12) (N := 163) (fs := fM (vS a (fT (fT (fT (fT (fT (fT vi 89 (nI fr22)) 81 (nI (pq22 - 1))) 21 s22) 22 p22) 82 sp22) 84 tv22) vj)) hx hb hts iwsRX12_bound_in12 hown hK hP 0 rfl rfl 78 (by decide) (hts _ hm_r_X12_bound_3) (fun _ h9 => h9) rfl dX12_bound_41 ?_
      refine lv_bipush (v := 9) hx hb dX12_bound_44 (by decide) ?_
      refine lv_aload_n hx hb dX12_bound_46 rfl (lv_at hl 0 rfl) ?_
      refine va_get (D := (dC, dI)) (ci := 12) (v := .int (nI (pq22 - 1))) (C := RX12) (T := TX12) (N := 163) (fs := fM (vS a (fT (fT (fT (fT (fT (fT vi 89 (nI fr22)) 81 (nI (pq22 - 1))) 21 s22) 22 p22) 82 sp22) 84 tv22) vj)) hx hb hts iwsRX12_bound_in12 hown hK hP 0 rfl rfl 81 (by decide) (hts _ hm_r_X12_bound_1) (fun _ h9 => h9) rfl dX12_bound_47 ?_
      refine lv_imul hx hb dX12_bound_50 ?_
      refine lv_topi (fun y7 hy7 => ?_)
      obtain rfl : (nI (9 * (pq22 - 1))) = y7 := (hy7.trans (pk_mul 9 (pq22 - 1))).symm
      refine va_iald (cA := k 49) (n := 900) (f := g492) hx hb hK hP 50 49 (WR_get 49 (by decide)) (TR_get 49 (by decide)) (vp_in_nI (show (9 * (pq22 - 1)) < 900 by omega) (by omega)) dX12_bound_51 ?_
      refine lv_topi (fun y8 hy8 => ?_)
      obtain rfl : (g492 (9 * (pq22 - 1))) = y8 := (hy8.trans (by rw [nI_clamp (by omega)])).symm
      refine lv_sipush (v := 999) hx hb dX12_bound_52 (by decide) ?_
      refine lv_icmp_gt (tgt := 76) hx hb dX12_bound_55 (by decide) (fun c_55 => ?_) (fun c_55 => ?_)
      · have t_55 : ((g492 (9 * (pq22 - 1)))).toInt > 999 := toI_gt c_55 rfl (by decide)
        refine lv_aload_n hx hb dX12_bound_76 rfl (lv_at hl 0 rfl) ?_
        refine lv_bipush (v := 9) hx hb dX12_bound_77 (by decide) ?_
        refine lv_aload_n hx hb dX12_bound_79 rfl (lv_at hl 0 rfl) ?_
        refine va_get (D := (dC, dI)) (ci := 12) (v := .ref (a 67)) (C := RX12) (T := TX12) (N := 163) (fs := fM (vS a (fT (fT (fT (fT (fT (fT vi 89 (nI fr22)) 81 (nI (pq22 - 1))) 21 s22) 22 p22) 82 sp22) 84 tv22) vj)) hx hb hts iwsRX12_bound_in12 hown hK hP 0 rfl rfl 107 (by decide) (hts _ hm_r_X12_bound_2) (fun _ h9 => h9) rfl dX12_bound_80 ?_
        refine lv_iload_n hx hb dX12_bound_83 rfl (lv_at hl 1 rfl) ?_
        refine va_iald (cA := k 67) (n := 200) (f := (vF 67)) hx hb hK hP 68 67 (WR_get 67 (by decide)) (TR_get 67 (by decide)) (vp_in_nI (show kP < 200 by omega) (by omega)) dX12_bound_84 ?_
        refine lv_topi (fun y9 hy9 => ?_)
        obtain rfl : ((vF 67) kP) = y9 := (hy9.trans (by rw [nI_clamp (by omega)])).symm
        have hFc := allFree hD hS hA
        refine va_callv (va_runV (As := [.int 9, .int ((vF 67) kP)]) (rest := []) ⟨hx, hb, hml, hown, hts⟩ (r_X12_faultAt l dC dI a k h0 (fT (fT (fT (fT (fT (fT vi 89 (nI fr22)) 81 (nI (pq22 - 1))) 21 s22) 22 p22) 82 sp22) 84 tv22) vj (fT (fT (fT (fT (fT (fT vF 52 g522) 53 g532) 49 g492) 50 g502) 51 g512) 54 g542) vG 9 ((vF 67) kP) (by first | with_reducible assumption | decide | omega | rfl | assumption) H.size) (cwV 2 hts gwsRX12_bound_1 rfl rfl rfl hd_yX12_faultAt_RX12 (by decide +kernel)) (fz_pre (va_recv hK hP (ci := 12) (q0 := 0) rfl rfl) hP hK hD) rfl rfl hl.1 rfl (lv_room (Nat.le_of_ble_eq_true rfl)) dX12_bound_85 (by decide +kernel)) hS (fun q _ h => hFc q h) hFc (fun u t9_ H locs ht hvm hw9 hB9 hz1 hk1 hS => ?_)
        revert u hw9 hB9
        refine fz_p2 ?_
        intro s285_1 p285_1 hw9 hB9
        try dsimp only at hw9 hB9
        have e9i : fT (fT (fT (fT (fT (fT vi 89 (nI fr22)) 81 (nI (pq22 - 1))) 21 s285_1) 22 p285_1) 82 sp22) 84 tv22 = fT (fT (fT (fT (fT (fT (fT (fT vi 89 (nI fr22)) 81 (nI (pq22 - 1))) 21 s22) 22 p22) 82 sp22) 84 tv22) 21 s285_1) 22 p285_1 := ch_E vi [nI fr22, nI (pq22 - 1), s285_1, p285_1, sp22, tv22, s22, p22] [(84, 6), (82, 5), (22, 4), (21, 3), (81, 2), (89, 1)] [(22, 4), (21, 3), (84, 6), (82, 5), (22, 8), (21, 7), (81, 2), (89, 1)] [] trivial (by decide +kernel)
        have hP := wr_Pi e9i (fz_P ht hB9.1)
        have hD := wr_Di e9i (hB9.2.weaken (fun _ q _ h => hFc q.1 h))
        clear e9i
        revert hw9
        refine fz_a2 ?_
        intro f85_1_0 f85_1_1
        have f85_1_0 : (0 < s22.toInt ∧ s285_1 = s22 ∧ p285_1 = p22) ∨ (¬ 0 < s22.toInt ∧ s285_1 = 9 ∧ p285_1 = ((vF 67) kP)) := f85_1_0
        refine lv_aload_n hx hb dX12_bound_88 rfl (lv_at hl 0 rfl) ?_
        refine va_get (D := (dC, dI)) (ci := 12) (v := .int s285_1) (C := RX12) (T := TX12) (N := 163) (fs := fM (vS a (fT (fT (fT (fT (fT (fT vi 89 (nI fr22)) 81 (nI (pq22 - 1))) 21 s285_1) 22 p285_1) 82 sp22) 84 tv22) vj)) hx hb hts iwsRX12_bound_in12 hown hK hP 0 rfl rfl 21 (by decide) (hts _ hm_r_X12_bound_0) (fun _ h9 => h9) rfl dX12_bound_89 ?_
        refine lv_if_le (tgt := 99) hx hb dX12_bound_92 (by decide) (fun c_92 => ?_) (fun c_92 => ?_)
        · have t_92 : (s285_1).toInt ≤ 0 := toI_le c_92 rfl (by decide)
          refine lv_aload_n hx hb dX12_bound_99 rfl (lv_at hl 0 rfl) ?_
          refine va_get (D := (dC, dI)) (ci := 12) (v := .ref (a 49)) (C := RX12) (T := TX12) (N := 163) (fs := fM (vS a (fT (fT (fT (fT (fT (fT vi 89 (nI fr22)) 81 (nI (pq22 - 1))) 21 s285_1) 22 p285_1) 82 sp22) 84 tv22) vj)) hx hb hts iwsRX12_bound_in12 hown hK hP 0 rfl rfl 78 (by decide) (hts _ hm_r_X12_bound_3) (fun _ h9 => h9) rfl dX12_bound_100 ?_
          refine lv_bipush (v := 9) hx hb dX12_bound_103 (by decide) ?_
          refine lv_aload_n hx hb dX12_bound_105 rfl (lv_at hl 0 rfl) ?_
          refine va_get (D := (dC, dI)) (ci := 12) (v := .int (nI (pq22 - 1))) (C := RX12) (T := TX12) (N := 163) (fs := fM (vS a (fT (fT (fT (fT (fT (fT vi 89 (nI fr22)) 81 (nI (pq22 - 1))) 21 s285_1) 22 p285_1) 82 sp22) 84 tv22) vj)) hx hb hts iwsRX12_bound_in12 hown hK hP 0 rfl rfl 81 (by decide) (hts _ hm_r_X12_bound_1) (fun _ h9 => h9) rfl dX12_bound_106 ?_
          refine lv_imul hx hb dX12_bound_109 ?_
          refine lv_topi (fun y10 hy10 => ?_)
          obtain rfl : (nI (9 * (pq22 - 1))) = y10 := (hy10.trans (pk_mul 9 (pq22 - 1))).symm
          refine va_iald (cA := k 49) (n := 900) (f := g492) hx hb hK hP 50 49 (WR_get 49 (by decide)) (TR_get 49 (by decide)) (vp_in_nI (show (9 * (pq22 - 1)) < 900 by omega) (by omega)) dX12_bound_110 ?_
          refine lv_topi (fun y11 hy11 => ?_)
          obtain rfl : (g492 (9 * (pq22 - 1))) = y11 := (hy11.trans (by rw [nI_clamp (by omega)])).symm
          refine W.widen (k := 0) (n := 0) (by decide +kernel) (by decide +kernel) ?_
          exact W.iret (v := (g492 (9 * (pq22 - 1)))) hx hb hr (fun t9_ ht hW => ⟨⟨(g492 (9 * (pq22 - 1))), (g492, g502, g512, g522, g532, g542, fr22, (pq22 - 1), s285_1, p285_1, sp22, tv22), rfl, by (try dsimp only); exact ⟨fun v9 h9 => f2_0 v9 (by omega), f2_1, by omega, Or.inr ⟨by omega, by omega⟩⟩, by rw [ht]; exact hP, hD⟩, hS.F ht⟩) hS.2.2 dX12_bound_111
        · have t_92 : ¬ (s285_1).toInt ≤ 0 := toI_nle c_92 rfl (by decide)
          refine lv_iconst (v := 0) hx hb dX12_bound_95 (by decide) ?_
          refine lv_goto (tgt := 111) hx hb dX12_bound_96 (by decide) ?_
          refine W.widen (k := 0) (n := 0) (by decide +kernel) (by decide +kernel) ?_
          exact W.iret (v := 0) hx hb hr (fun t9_ ht hW => ⟨⟨0, (g492, g502, g512, g522, g532, g542, fr22, (pq22 - 1), s285_1, p285_1, sp22, tv22), rfl, by (try dsimp only); exact ⟨fun v9 h9 => f2_0 v9 (by omega), f2_1, by omega, Or.inl (by omega)⟩, by rw [ht]; exact hP, hD⟩, hS.F ht⟩) hS.2.2 dX12_bound_111
      · have t_55 : ¬ ((g492 (9 * (pq22 - 1)))).toInt > 999 := toI_ngt c_55 rfl (by decide)
        refine lv_aload_n hx hb dX12_bound_58 rfl (lv_at hl 0 rfl) ?_
        refine va_get (D := (dC, dI)) (ci := 12) (v := .ref (a 49)) (C := RX12) (T := TX12) (N := 163) (fs := fM (vS a (fT (fT (fT (fT (fT (fT vi 89 (nI fr22)) 81 (nI (pq22 - 1))) 21 s22) 22 p22) 82 sp22) 84 tv22) vj)) hx hb hts iwsRX12_bound_in12 hown hK hP 0 rfl rfl 78 (by decide) (hts _ hm_r_X12_bound_3) (fun _ h9 => h9) rfl dX12_bound_59 ?_
        refine lv_bipush (v := 9) hx hb dX12_bound_62 (by decide) ?_
        refine lv_aload_n hx hb dX12_bound_64 rfl (lv_at hl 0 rfl) ?_
        refine va_get (D := (dC, dI)) (ci := 12) (v := .int (nI (pq22 - 1))) (C := RX12) (T := TX12) (N := 163) (fs := fM (vS a (fT (fT (fT (fT (fT (fT vi 89 (nI fr22)) 81 (nI (pq22 - 1))) 21 s22) 22 p22) 82 sp22) 84 tv22) vj)) hx hb hts iwsRX12_bound_in12 hown hK hP 0 rfl rfl 81 (by decide) (hts _ hm_r_X12_bound_1) (fun _ h9 => h9) rfl dX12_bound_65 ?_
        refine lv_imul hx hb dX12_bound_68 ?_
        refine lv_topi (fun y12 hy12 => ?_)
        obtain rfl : (nI (9 * (pq22 - 1))) = y12 := (hy12.trans (pk_mul 9 (pq22 - 1))).symm
        refine va_iald (cA := k 49) (n := 900) (f := g492) hx hb hK hP 50 49 (WR_get 49 (by decide)) (TR_get 49 (by decide)) (vp_in_nI (show (9 * (pq22 - 1)) < 900 by omega) (by omega)) dX12_bound_69 ?_
        refine lv_topi (fun y13 hy13 => ?_)
        obtain rfl : (g492 (9 * (pq22 - 1))) = y13 := (hy13.trans (by rw [nI_clamp (by omega)])).symm
        refine lv_sipush (v := (-999)) hx hb dX12_bound_70 (by decide) ?_
        refine lv_icmp_ge (tgt := 88) hx hb dX12_bound_73 (by decide) (fun c_73 => ?_) (fun c_73 => ?_)
        · have t_73 : ((g492 (9 * (pq22 - 1)))).toInt ≥ -999 := toI_ge c_73 rfl (by decide)
          refine lv_aload_n hx hb dX12_bound_88 rfl (lv_at hl 0 rfl) ?_
          refine va_get (D := (dC, dI)) (ci := 12) (v := .int s22) (C := RX12) (T := TX12) (N := 163) (fs := fM (vS a (fT (fT (fT (fT (fT (fT vi 89 (nI fr22)) 81 (nI (pq22 - 1))) 21 s22) 22 p22) 82 sp22) 84 tv22) vj)) hx hb hts iwsRX12_bound_in12 hown hK hP 0 rfl rfl 21 (by decide) (hts _ hm_r_X12_bound_0) (fun _ h9 => h9) rfl dX12_bound_89 ?_
          refine lv_if_le (tgt := 99) hx hb dX12_bound_92 (by decide) (fun c_92 => ?_) (fun c_92 => ?_)
          · have t_92 : (s22).toInt ≤ 0 := toI_le c_92 rfl (by decide)
            refine lv_aload_n hx hb dX12_bound_99 rfl (lv_at hl 0 rfl) ?_
            refine va_get (D := (dC, dI)) (ci := 12) (v := .ref (a 49)) (C := RX12) (T := TX12) (N := 163) (fs := fM (vS a (fT (fT (fT (fT (fT (fT vi 89 (nI fr22)) 81 (nI (pq22 - 1))) 21 s22) 22 p22) 82 sp22) 84 tv22) vj)) hx hb hts iwsRX12_bound_in12 hown hK hP 0 rfl rfl 78 (by decide) (hts _ hm_r_X12_bound_3) (fun _ h9 => h9) rfl dX12_bound_100 ?_
            refine lv_bipush (v := 9) hx hb dX12_bound_103 (by decide) ?_
            refine lv_aload_n hx hb dX12_bound_105 rfl (lv_at hl 0 rfl) ?_
            refine va_get (D := (dC, dI)) (ci := 12) (v := .int (nI (pq22 - 1))) (C := RX12) (T := TX12) (N := 163) (fs := fM (vS a (fT (fT (fT (fT (fT (fT vi 89 (nI fr22)) 81 (nI (pq22 - 1))) 21 s22) 22 p22) 82 sp22) 84 tv22) vj)) hx hb hts iwsRX12_bound_in12 hown hK hP 0 rfl rfl 81 (by decide) (hts _ hm_r_X12_bound_1) (fun _ h9 => h9) rfl dX12_bound_106 ?_
            refine lv_imul hx hb dX12_bound_109 ?_
            refine lv_topi (fun y14 hy14 => ?_)
            obtain rfl : (nI (9 * (pq22 - 1))) = y14 := (hy14.trans (pk_mul 9 (pq22 - 1))).symm
            refine va_iald (cA := k 49) (n := 900) (f := g492) hx hb hK hP 50 49 (WR_get 49 (by decide)) (TR_get 49 (by decide)) (vp_in_nI (show (9 * (pq22 - 1)) < 900 by omega) (by omega)) dX12_bound_110 ?_
            refine lv_topi (fun y15 hy15 => ?_)
            obtain rfl : (g492 (9 * (pq22 - 1))) = y15 := (hy15.trans (by rw [nI_clamp (by omega)])).symm
            refine W.widen (k := 0) (n := 0) (by decide +kernel) (by decide +kernel) ?_
            exact W.iret (v := (g492 (9 * (pq22 - 1)))) hx hb hr (fun t9_ ht hW => ⟨⟨(g492 (9 * (pq22 - 1))), (g492, g502, g512, g522, g532, g542, fr22, (pq22 - 1), s22, p22, sp22, tv22), rfl, by (try dsimp only); exact ⟨fun v9 h9 => f2_0 v9 (by omega), f2_1, by omega, Or.inr ⟨by omega, by omega⟩⟩, by rw [ht]; exact hP, hD⟩, hS.F ht⟩) hS.2.2 dX12_bound_111
          · have t_92 : ¬ (s22).toInt ≤ 0 := toI_nle c_92 rfl (by decide)
            refine lv_iconst (v := 0) hx hb dX12_bound_95 (by decide) ?_
            refine lv_goto (tgt := 111) hx hb dX12_bound_96 (by decide) ?_
            refine W.widen (k := 0) (n := 0) (by decide +kernel) (by decide +kernel) ?_
            exact W.iret (v := 0) hx hb hr (fun t9_ ht hW => ⟨⟨0, (g492, g502, g512, g522, g532, g542, fr22, (pq22 - 1), s22, p22, sp22, tv22), rfl, by (try dsimp only); exact ⟨fun v9 h9 => f2_0 v9 (by omega), f2_1, by omega, Or.inl (by omega)⟩, by rw [ht]; exact hP, hD⟩, hS.F ht⟩) hS.2.2 dX12_bound_111
        · have t_73 : ¬ ((g492 (9 * (pq22 - 1)))).toInt ≥ -999 := toI_nge c_73 rfl (by decide)
          refine lv_aload_n hx hb dX12_bound_76 rfl (lv_at hl 0 rfl) ?_
          refine lv_bipush (v := 9) hx hb dX12_bound_77 (by decide) ?_
          refine lv_aload_n hx hb dX12_bound_79 rfl (lv_at hl 0 rfl) ?_
          refine va_get (D := (dC, dI)) (ci := 12) (v := .ref (a 67)) (C := RX12) (T := TX12) (N := 163) (fs := fM (vS a (fT (fT (fT (fT (fT (fT vi 89 (nI fr22)) 81 (nI (pq22 - 1))) 21 s22) 22 p22) 82 sp22) 84 tv22) vj)) hx hb hts iwsRX12_bound_in12 hown hK hP 0 rfl rfl 107 (by decide) (hts _ hm_r_X12_bound_2) (fun _ h9 => h9) rfl dX12_bound_80 ?_
          refine lv_iload_n hx hb dX12_bound_83 rfl (lv_at hl 1 rfl) ?_
          refine va_iald (cA := k 67) (n := 200) (f := (vF 67)) hx hb hK hP 68 67 (WR_get 67 (by decide)) (TR_get 67 (by decide)) (vp_in_nI (show kP < 200 by omega) (by omega)) dX12_bound_84 ?_
          refine lv_topi (fun y16 hy16 => ?_)
          obtain rfl : ((vF 67) kP) = y16 := (hy16.trans (by rw [nI_clamp (by omega)])).symm
          have hFc := allFree hD hS hA
          refine va_callv (va_runV (As := [.int 9, .int ((vF 67) kP)]) (rest := []) ⟨hx, hb, hml, hown, hts⟩ (r_X12_faultAt l dC dI a k h0 (fT (fT (fT (fT (fT (fT vi 89 (nI fr22)) 81 (nI (pq22 - 1))) 21 s22) 22 p22) 82 sp22) 84 tv22) vj (fT (fT (fT (fT (fT (fT vF 52 g522) 53 g532) 49 g492) 50 g502) 51 g512) 54 g542) vG 9 ((vF 67) kP) (by first | with_reducible assumption | decide | omega | rfl | assumption) H.size) (cwV 2 hts gwsRX12_bound_1 rfl rfl rfl hd_yX12_faultAt_RX12 (by decide +kernel)) (fz_pre (va_recv hK hP (ci := 12) (q0 := 0) rfl rfl) hP hK hD) rfl rfl hl.1 rfl (lv_room (Nat.le_of_ble_eq_true rfl)) dX12_bound_85 (by decide +kernel)) hS (fun q _ h => hFc q h) hFc (fun u t9_ H locs ht hvm hw9 hB9 hz1 hk1 hS => ?_)
          revert u hw9 hB9
          refine fz_p2 ?_
          intro s285_2 p285_2 hw9 hB9
          try dsimp only at hw9 hB9
          have e9i : fT (fT (fT (fT (fT (fT vi 89 (nI fr22)) 81 (nI (pq22 - 1))) 21 s285_2) 22 p285_2) 82 sp22) 84 tv22 = fT (fT (fT (fT (fT (fT (fT (fT vi 89 (nI fr22)) 81 (nI (pq22 - 1))) 21 s22) 22 p22) 82 sp22) 84 tv22) 21 s285_2) 22 p285_2 := ch_E vi [nI fr22, nI (pq22 - 1), s285_2, p285_2, sp22, tv22, s22, p22] [(84, 6), (82, 5), (22, 4), (21, 3), (81, 2), (89, 1)] [(22, 4), (21, 3), (84, 6), (82, 5), (22, 8), (21, 7), (81, 2), (89, 1)] [] trivial (by decide +kernel)
          have hP := wr_Pi e9i (fz_P ht hB9.1)
          have hD := wr_Di e9i (hB9.2.weaken (fun _ q _ h => hFc q.1 h))
          clear e9i
          revert hw9
          refine fz_a2 ?_
          intro f85_2_0 f85_2_1
          have f85_2_0 : (0 < s22.toInt ∧ s285_2 = s22 ∧ p285_2 = p22) ∨ (¬ 0 < s22.toInt ∧ s285_2 = 9 ∧ p285_2 = ((vF 67) kP)) := f85_2_0
          refine lv_aload_n hx hb dX12_bound_88 rfl (lv_at hl 0 rfl) ?_
          refine va_get (D := (dC, dI)) (ci := 12) (v := .int s285_2) (C := RX12) (T := TX12) (N := 163) (fs := fM (vS a (fT (fT (fT (fT (fT (fT vi 89 (nI fr22)) 81 (nI (pq22 - 1))) 21 s285_2) 22 p285_2) 82 sp22) 84 tv22) vj)) hx hb hts iwsRX12_bound_in12 hown hK hP 0 rfl rfl 21 (by decide) (hts _ hm_r_X12_bound_0) (fun _ h9 => h9) rfl dX12_bound_89 ?_
          refine lv_if_le (tgt := 99) hx hb dX12_bound_92 (by decide) (fun c_92 => ?_) (fun c_92 => ?_)
          · have t_92 : (s285_2).toInt ≤ 0 := toI_le c_92 rfl (by decide)
            refine lv_aload_n hx hb dX12_bound_99 rfl (lv_at hl 0 rfl) ?_
            refine va_get (D := (dC, dI)) (ci := 12) (v := .ref (a 49)) (C := RX12) (T := TX12) (N := 163) (fs := fM (vS a (fT (fT (fT (fT (fT (fT vi 89 (nI fr22)) 81 (nI (pq22 - 1))) 21 s285_2) 22 p285_2) 82 sp22) 84 tv22) vj)) hx hb hts iwsRX12_bound_in12 hown hK hP 0 rfl rfl 78 (by decide) (hts _ hm_r_X12_bound_3) (fun _ h9 => h9) rfl dX12_bound_100 ?_
            refine lv_bipush (v := 9) hx hb dX12_bound_103 (by decide) ?_
            refine lv_aload_n hx hb dX12_bound_105 rfl (lv_at hl 0 rfl) ?_
            refine va_get (D := (dC, dI)) (ci := 12) (v := .int (nI (pq22 - 1))) (C := RX12) (T := TX12) (N := 163) (fs := fM (vS a (fT (fT (fT (fT (fT (fT vi 89 (nI fr22)) 81 (nI (pq22 - 1))) 21 s285_2) 22 p285_2) 82 sp22) 84 tv22) vj)) hx hb hts iwsRX12_bound_in12 hown hK hP 0 rfl rfl 81 (by decide) (hts _ hm_r_X12_bound_1) (fun _ h9 => h9) rfl dX12_bound_106 ?_
            refine lv_imul hx hb dX12_bound_109 ?_
            refine lv_topi (fun y17 hy17 => ?_)
            obtain rfl : (nI (9 * (pq22 - 1))) = y17 := (hy17.trans (pk_mul 9 (pq22 - 1))).symm
            refine va_iald (cA := k 49) (n := 900) (f := g492) hx hb hK hP 50 49 (WR_get 49 (by decide)) (TR_get 49 (by decide)) (vp_in_nI (show (9 * (pq22 - 1)) < 900 by omega) (by omega)) dX12_bound_110 ?_
            refine lv_topi (fun y18 hy18 => ?_)
            obtain rfl : (g492 (9 * (pq22 - 1))) = y18 := (hy18.trans (by rw [nI_clamp (by omega)])).symm
            refine W.widen (k := 0) (n := 0) (by decide +kernel) (by decide +kernel) ?_
            exact W.iret (v := (g492 (9 * (pq22 - 1)))) hx hb hr (fun t9_ ht hW => ⟨⟨(g492 (9 * (pq22 - 1))), (g492, g502, g512, g522, g532, g542, fr22, (pq22 - 1), s285_2, p285_2, sp22, tv22), rfl, by (try dsimp only); exact ⟨fun v9 h9 => f2_0 v9 (by omega), f2_1, by omega, Or.inr ⟨by omega, by omega⟩⟩, by rw [ht]; exact hP, hD⟩, hS.F ht⟩) hS.2.2 dX12_bound_111
          · have t_92 : ¬ (s285_2).toInt ≤ 0 := toI_nle c_92 rfl (by decide)
            refine lv_iconst (v := 0) hx hb dX12_bound_95 (by decide) ?_
            refine lv_goto (tgt := 111) hx hb dX12_bound_96 (by decide) ?_
            refine W.widen (k := 0) (n := 0) (by decide +kernel) (by decide +kernel) ?_
            exact W.iret (v := 0) hx hb hr (fun t9_ ht hW => ⟨⟨0, (g492, g502, g512, g522, g532, g542, fr22, (pq22 - 1), s285_2, p285_2, sp22, tv22), rfl, by (try dsimp only); exact ⟨fun v9 h9 => f2_0 v9 (by omega), f2_1, by omega, Or.inl (by omega)⟩, by rw [ht]; exact hP, hD⟩, hS.F ht⟩) hS.2.2 dX12_bound_111
  · have t_9 : ¬ (s22).toInt ≤ 0 := toI_nle c_9 rfl (by decide)
    refine lv_iconst (v := 0) hx hb dX12_bound_12 (by decide) ?_
    refine W.widen (k := 0) (n := 0) (by decide +kernel) (by decide +kernel) ?_
    exact W.iret (v := 0) hx hb hr (fun t9_ ht hW => ⟨⟨0, (g492, g502, g512, g522, g532, g542, fr22, pq22, s22, p22, sp22, tv22), rfl, by (try dsimp only); exact ⟨f2_0, f2_1, f2_2, Or.inl (by omega)⟩, by rw [ht]; exact hP, hD⟩, hS.F ht⟩) hS.2.2 dX12_bound_13
end
section
/-- the reader's ghosts: the finished nodes, their work, order, pile and members -/
abbrev RG : Type := (Nat → Prop) × (Nat → Nat) × (Nat → Nat) × (Nat → Nat) × (Nat → Int32) × Nat
abbrev RG.V (G : RG) : Nat → Prop := Prod.fst G
abbrev RG.wt (G : RG) : Nat → Nat := G.2.1
abbrev RG.dp (G : RG) : Nat → Nat := G.2.2.1
abbrev RG.pd (G : RG) : Nat → Nat := G.2.2.2.1
abbrev RG.mb (G : RG) : Nat → Int32 := G.2.2.2.2.1
abbrev RG.vN (G : RG) : Nat := G.2.2.2.2.2
/-- one more finished node -/
def RG.add (G : RG) (n w p : Nat) (b : Int32) : RG := ⟨fun q => q = n ∨ G.V q, fun q => if q = n then w else G.wt q, fun q => if q = n then G.vN else G.dp q, fun q => if q = n then p else G.pd q, fun q => if q = n then b else G.mb q, G.vN + 1⟩
/-- the rows that a node speaks of: T the tables, the rest the nodes' and the bindings' own -/
def ndF (T : Nat → Nat → Int32) (mb f29 f30 f31 f32 f36 f37 f38 : Nat → Int32) : Nat → Nat → Int32 := fun k =>
  if k = 29 then f29 else if k = 30 then f30 else if k = 31 then f31 else if k = 32 then f32 else if k = 36 then f36 else if k = 37 then f37 else if k = 38 then f38 else if k = 150 then mb else T k
theorem ndF_T {T : Nat → Nat → Int32} {mb f29 f30 f31 f32 f36 f37 f38 : Nat → Int32} {x : Nat} (hx : x < 29) : ndF T mb f29 f30 f31 f32 f36 f37 f38 x = T x := by
  unfold ndF
  rw [if_neg (by omega), if_neg (by omega), if_neg (by omega), if_neg (by omega), if_neg (by omega), if_neg (by omega), if_neg (by omega), if_neg (by omega)]
theorem NamS.cg {F F' : Nat → Nat → Int32} {se k a pl o1 o2 aT : Nat} (hT : ∀ x, x < 29 → F' x = F x) (h : NamS F se k a pl o1 o2 aT) : NamS F' se k a pl o1 o2 aT := by
  unfold NamS MmK nuF at h ⊢
  rw [hT 17 (by decide), hT 3 (by decide), hT 18 (by decide), hT 19 (by decide), hT 20 (by decide), hT 21 (by decide), hT 24 (by decide), hT 25 (by decide), hT 26 (by decide), hT 27 (by decide), hT 1 (by decide), hT 2 (by decide)]
  exact h
theorem KidL.mono {F F' : Nat → Nat → Int32} {V V' : Nat → Prop} {dp pd dp' pd' : Nat → Nat} {n x d c : Nat} (h : KidL F V dp pd n x d c) (hx : F' x n = F x n) (hc : ∀ q, V q → V' q ∧ F' 29 q = F 29 q ∧ dp' q = dp q ∧ pd' q = pd q) (hn : dp' n = dp n ∧ pd' n = pd n) : KidL F' V' dp' pd' n x d c := by
  obtain ⟨⟨h1, h2⟩, h3, h4, h5, h6⟩ := h
  obtain ⟨a1, a2, a3, a4⟩ := hc c h3
  exact ⟨⟨hx.trans h1, h2⟩, a1, by omega, by omega, by rw [a2]; exact h6⟩
theorem KidT.mono {F F' : Nat → Nat → Int32} {V V' : Nat → Prop} {dp pd dp' pd' : Nat → Nat} {n x d c : Nat} (h : KidT F V dp pd n x d c) (hx : F' x n = F x n) (hc : ∀ q, V q → V' q ∧ F' 29 q = F 29 q ∧ dp' q = dp q ∧ pd' q = pd q) (hn : dp' n = dp n ∧ pd' n = pd n) : KidT F' V' dp' pd' n x d c := by
  obtain ⟨⟨h1, h2⟩, h3, h4, h5, h6⟩ := h
  obtain ⟨a1, a2, a3, a4⟩ := hc c h3
  exact ⟨⟨hx.trans h1, h2⟩, a1, by omega, by omega, by rw [a2]; exact h6⟩
theorem NdK.mono {F F' : Nat → Nat → Int32} {V V' : Nat → Prop} {wt dp pd wt' dp' pd' : Nat → Nat} {se n k : Nat} (h : NdK F V wt dp pd se n k) (h30 : F' 30 n = F 30 n) (h31 : F' 31 n = F 31 n) (h32 : F' 32 n = F 32 n) (h150 : F' 150 n = F 150 n) (h17 : F' 17 = F 17) (hT : ∀ a pl o1 o2 aT, (k = 2 ∨ k = 3) → NamS F se k a pl o1 o2 aT → NamS F' se k a pl o1 o2 aT)
    (hc : ∀ q, V q → V' q ∧ F' 29 q = F 29 q ∧ wt' q = wt q ∧ dp' q = dp q ∧ pd' q = pd q) (hn : wt' n = wt n ∧ dp' n = dp n ∧ pd' n = pd n) (hb : k = 9 → ∀ b, F 30 n = nI b → b < 900 → F' 36 b = F 36 b ∧ F' 37 b = F 37 b ∧ F' 38 b = F 38 b) : NdK F' V' wt' dp' pd' se n k := by
  have hc' : ∀ q, V q → V' q ∧ F' 29 q = F 29 q ∧ dp' q = dp q ∧ pd' q = pd q := fun q hq => ⟨(hc q hq).1, (hc q hq).2.1, (hc q hq).2.2.2⟩
  obtain ⟨n1, n2, n3⟩ := hn
  have hw : ∀ q, V q → wt' q = wt q := fun q hq => (hc q hq).2.2.1
  have hmb : mbO F' n = mbO F n := by unfold mbO; rw [h150]
  rcases h with ⟨a, b, c⟩ | ⟨a, b, x, c, d⟩ | ⟨a, b, x, pl, o1, o2, aT, d, c, ⟨e1, e2⟩, e3, e4⟩ | ⟨a, b, c, d, e⟩ | ⟨a, b, c, d, e, f, g⟩ | ⟨a, b, x, c, W, d1, d2, d3, d4, d5, d6, d7⟩ | ⟨a, c, d, e, f, g⟩ | ⟨a, c, d, e⟩
  · exact Or.inl ⟨a, by omega, by rw [h30]; exact c⟩
  · exact Or.inr (Or.inl ⟨a, by omega, x, c, h30.trans d⟩)
  · refine Or.inr (Or.inr (Or.inl ⟨a, by omega, x, pl, o1, o2, aT, d, c, ⟨h30.trans e1, e2⟩, ?_, ?_⟩))
    · exact hT x pl o1 o2 aT a e3
    · obtain ⟨g1, g2, g3⟩ := e4
      refine ⟨g1.imp (fun q => ⟨q.1, h31.trans q.2⟩) (fun q => ⟨q.1, q.2.mono h31 hc' ⟨n2, n3⟩⟩), g2.imp (fun q => ⟨q.1, h32.trans q.2⟩) (fun q => ⟨q.1, q.2.mono h32 hc' ⟨n2, n3⟩⟩), ?_⟩
      rcases g1 with g1 | g1
      · exact Or.inl g1.1
      · have w1 := hw d g1.2.2.1
        rcases g3 with g3 | ⟨g3, g4⟩
        · exact Or.inl g3
        · refine Or.inr ⟨by omega, ?_⟩
          rcases g2 with g2 | g2
          · exact Or.inl (by omega)
          · have w2 := hw c g2.2.2.1
            rcases g4 with g4 | g4
            · exact Or.inl g4
            · exact Or.inr (by omega)
  · have w1 := hw c d.2.1
    exact Or.inr (Or.inr (Or.inr (Or.inl ⟨a, by omega, c, d.mono h30 hc' ⟨n2, n3⟩, by omega⟩)))
  · have w1 := hw c e.2.1
    have w2 := hw d f.2.1
    exact Or.inr (Or.inr (Or.inr (Or.inr (Or.inl ⟨a, by omega, c, d, e.mono h30 hc' ⟨n2, n3⟩, f.mono h31 hc' ⟨n2, n3⟩, by omega⟩))))
  · obtain ⟨b1, b2, b3⟩ := hb a x d1 d2
    have w1 := hw c d6.1.2.1
    refine Or.inr (Or.inr (Or.inr (Or.inr (Or.inr (Or.inl ⟨a, by omega, x, c, W, h30.trans d1, d2, ?_, ?_, ?_, ⟨d6.1.mono h32 hc' ⟨n2, n3⟩, by (have := d6.2.1); omega, ?_⟩, ?_⟩)))))
    · unfold BnO at d3 ⊢
      rw [b1, b2, b3]
      exact d3
    · unfold MbO at d4 ⊢
      rw [hmb, b1, b2, h17]
      exact d4
    · rw [hmb]; exact d5
    · rcases d6.2.2 with q | ⟨y, q, r⟩
      · exact Or.inl (h31.trans q)
      · have w2 := hw y q.2.1
        exact Or.inr ⟨y, q.mono h31 hc' ⟨n2, n3⟩, by omega⟩
    · rw [hmb, n1]; exact d7
  · have w1 := hw c e.2.1
    have w2 := hw d f.2.1
    exact Or.inr (Or.inr (Or.inr (Or.inr (Or.inr (Or.inr (Or.inl ⟨a, c, d, e.mono h30 hc' ⟨n2, n3⟩, f.mono h31 hc' ⟨n2, n3⟩, by omega⟩))))))
  · have w1 := hw c d.2.1
    exact Or.inr (Or.inr (Or.inr (Or.inr (Or.inr (Or.inr (Or.inr ⟨a, c, d.mono h30 hc' ⟨n2, n3⟩, by omega⟩))))))
/-- the finished nodes are well formed, below nd, their bindings below bs -/
def RdV (T : Nat → Nat → Int32) (G : RG) (f29 f30 f31 f32 f36 f37 f38 : Nat → Int32) (se nd bs : Nat) : Prop :=
  VoK (ndF T G.mb f29 f30 f31 f32 f36 f37 f38) G.V G.wt G.dp G.pd se ∧ (∀ n, G.V n → n < nd ∧ G.dp n < G.vN) ∧ ∀ n b, G.V n → f29 n = nI 9 → f30 n = nI b → b < 900 → b < bs
theorem RdV.keep {T : Nat → Nat → Int32} {G : RG} {f29 f30 f31 f32 f36 f37 f38 g29 g30 g31 g32 g36 g37 g38 : Nat → Int32} {se nd bs nd' bs' : Nat} (h : RdV T G f29 f30 f31 f32 f36 f37 f38 se nd bs) (hn : ∀ n, G.V n → g29 n = f29 n ∧ g30 n = f30 n ∧ g31 n = f31 n ∧ g32 n = f32 n) (hb : ∀ b, b < bs → g36 b = f36 b ∧ g37 b = f37 b ∧ g38 b = f38 b) (hnd : nd ≤ nd') (hbs : bs ≤ bs') : RdV T G g29 g30 g31 g32 g36 g37 g38 se nd' bs' := by
  obtain ⟨h1, h2, h3⟩ := h
  refine ⟨fun n hv => ?_, fun n hv => ⟨Nat.lt_of_lt_of_le (h2 n hv).1 hnd, (h2 n hv).2⟩, fun n b hv e1 e2 e9 => ?_⟩
  · obtain ⟨a1, k, a2, a3⟩ := h1 n hv
    obtain ⟨e1, e2, e3, e4⟩ := hn n hv
    refine ⟨a1, k, e1.trans a2, a3.mono e2 e3 e4 rfl ((ndF_T (by decide)).trans (ndF_T (by decide)).symm) (fun x pl o1 o2 aT _ => NamS.cg (fun x hx => (ndF_T hx).trans (ndF_T hx).symm)) (fun q hq => ⟨hq, (hn q hq).1, rfl, rfl, rfl⟩) ⟨rfl, rfl, rfl⟩ (fun hk b hb' h9 => ?_)⟩
    · subst hk
      exact hb b (h3 n b hv a2 hb' h9)
  · obtain ⟨e3, e4, _⟩ := hn n hv
    exact Nat.lt_of_lt_of_le (h3 n b hv (e3.symm.trans e1) (e4.symm.trans e2) e9) hbs
theorem RdV.add {T : Nat → Nat → Int32} {G : RG} {f29 f30 f31 f32 f36 f37 f38 : Nat → Int32} {se nd bs n w p k : Nat} {b : Int32} (h : RdV T G f29 f30 f31 f32 f36 f37 f38 se nd bs) (hv : ¬ G.V n) (hn : n < nd) (h4 : n < 4000) (hk : f29 n = nI k)
    (hN : NdK (ndF T (G.add n w p b).mb f29 f30 f31 f32 f36 f37 f38) (G.add n w p b).V (G.add n w p b).wt (G.add n w p b).dp (G.add n w p b).pd se n k) (hb : k = 9 → ∀ x, f30 n = nI x → x < 900 → x < bs) (hk9 : k < 4000) : RdV T (G.add n w p b) f29 f30 f31 f32 f36 f37 f38 se nd bs := by
  obtain ⟨h1, h2, h3⟩ := h
  refine ⟨fun q hq => ?_, fun q hq => ?_, fun q x hq e1 e2 e9 => ?_⟩
  · rcases hq with rfl | hq
    · exact ⟨h4, k, hk, hN⟩
    · have hqn : q ≠ n := fun e => hv (e ▸ hq)
      obtain ⟨a1, k9, a2, a3⟩ := h1 q hq
      exact ⟨a1, k9, a2, a3.mono rfl rfl rfl (if_neg hqn) ((ndF_T (by decide)).trans (ndF_T (by decide)).symm) (fun x pl o1 o2 aT _ => NamS.cg (fun x hx => (ndF_T hx).trans (ndF_T hx).symm))
        (fun c hc => have hcn : c ≠ n := fun e => hv (e ▸ hc)
          ⟨Or.inr hc, rfl, if_neg hcn, if_neg hcn, if_neg hcn⟩) ⟨if_neg hqn, if_neg hqn, if_neg hqn⟩ (fun _ _ _ _ => ⟨rfl, rfl, rfl⟩)⟩
  · rcases hq with rfl | hq
    · exact ⟨hn, by show (if q = q then G.vN else G.dp q) < G.vN + 1; rw [if_pos rfl]; omega⟩
    · have hqn : q ≠ n := fun e => hv (e ▸ hq)
      exact ⟨(h2 q hq).1, by show (if q = n then G.vN else G.dp q) < G.vN + 1; rw [if_neg hqn]; have := (h2 q hq).2; omega⟩
  · rcases hq with rfl | hq
    · exact hb (nIinj hk9 (by decide) (hk.symm.trans e1)) x e2 e9
    · exact h3 q x hq e1 e2 e9
/-- a finished part that lays a row on the pile (LinO), or a truth (TruO); its pile is within P -/
def LinO (G : RG) (f29 : Nat → Int32) (c P : Nat) : Prop := G.V c ∧ (f29 c).toInt ≤ 9 ∧ G.pd c ≤ P
def TruO (G : RG) (f29 : Nat → Int32) (c P : Nat) : Prop := G.V c ∧ ¬ (f29 c).toInt ≤ 9 ∧ G.pd c ≤ P
theorem RdV.lt {T : Nat → Nat → Int32} {G : RG} {f29 f30 f31 f32 f36 f37 f38 : Nat → Int32} {se nd bs n : Nat} (h : RdV T G f29 f30 f31 f32 f36 f37 f38 se nd bs) (hv : G.V n) : n < 4000 := (h.1 n hv).1
theorem RdV.kid {T : Nat → Nat → Int32} {G : RG} {f29 f30 f31 f32 f36 f37 f38 : Nat → Int32} {se nd bs n w p c P d x : Nat} {b : Int32} (h : RdV T G f29 f30 f31 f32 f36 f37 f38 se nd bs) (hv : ¬ G.V n) (hc : LinO G f29 c P) (hP : P + d ≤ p) (e : ndF T (G.add n w p b).mb f29 f30 f31 f32 f36 f37 f38 x n = nI c) :
    KidL (ndF T (G.add n w p b).mb f29 f30 f31 f32 f36 f37 f38) (G.add n w p b).V (G.add n w p b).dp (G.add n w p b).pd n x d c := by
  have hcn : c ≠ n := fun e => hv (e ▸ hc.1)
  refine ⟨⟨e, h.lt hc.1⟩, Or.inr hc.1, ?_, ?_, hc.2.1⟩
  · show (if c = n then G.vN else G.dp c) < (if n = n then G.vN else G.dp n)
    rw [if_neg hcn, if_pos rfl]; exact (h.2.1 c hc.1).2
  · show (if c = n then p else G.pd c) + d ≤ (if n = n then p else G.pd n)
    rw [if_neg hcn, if_pos rfl]; have := hc.2.2; omega
theorem RdV.kidT {T : Nat → Nat → Int32} {G : RG} {f29 f30 f31 f32 f36 f37 f38 : Nat → Int32} {se nd bs n w p c P d x : Nat} {b : Int32} (h : RdV T G f29 f30 f31 f32 f36 f37 f38 se nd bs) (hv : ¬ G.V n) (hc : TruO G f29 c P) (hP : P + d ≤ p) (e : ndF T (G.add n w p b).mb f29 f30 f31 f32 f36 f37 f38 x n = nI c) :
    KidT (ndF T (G.add n w p b).mb f29 f30 f31 f32 f36 f37 f38) (G.add n w p b).V (G.add n w p b).dp (G.add n w p b).pd n x d c := by
  have hcn : c ≠ n := fun e => hv (e ▸ hc.1)
  refine ⟨⟨e, h.lt hc.1⟩, Or.inr hc.1, ?_, ?_, hc.2.1⟩
  · show (if c = n then G.vN else G.dp c) < (if n = n then G.vN else G.dp n)
    rw [if_neg hcn, if_pos rfl]; exact (h.2.1 c hc.1).2
  · show (if c = n then p else G.pd c) + d ≤ (if n = n then p else G.pd n)
    rw [if_neg hcn, if_pos rfl]; have := hc.2.2; omega
end
section
theorem LinO.mono {G : RG} {f29 : Nat → Int32} {c P Q : Nat} (h : LinO G f29 c P) (hq : P ≤ Q) : LinO G f29 c Q := ⟨h.1, h.2.1, Nat.le_trans h.2.2 hq⟩
theorem TruO.mono {G : RG} {f29 : Nat → Int32} {c P Q : Nat} (h : TruO G f29 c P) (hq : P ≤ Q) : TruO G f29 c Q := ⟨h.1, h.2.1, Nat.le_trans h.2.2 hq⟩
theorem LinO.new {G : RG} {f29 : Nat → Int32} {n w p k : Nat} {b : Int32} (hk : f29 n = nI k) (h9 : k ≤ 9) : LinO (G.add n w p b) f29 n p := ⟨Or.inl rfl, by rw [hk, nI_toInt (by omega)]; omega, by show (if n = n then p else G.pd n) ≤ p; rw [if_pos rfl]; exact Nat.le_refl _⟩
theorem TruO.new {G : RG} {f29 : Nat → Int32} {n w p k : Nat} {b : Int32} (hk : f29 n = nI k) (h9 : ¬ k ≤ 9) (h4 : k < 4000) : TruO (G.add n w p b) f29 n p := ⟨Or.inl rfl, by rw [hk, nI_toInt (by omega)]; omega, by show (if n = n then p else G.pd n) ≤ p; rw [if_pos rfl]; exact Nat.le_refl _⟩
theorem RdV.num {T : Nat → Nat → Int32} {G : RG} {f29 f30 f31 f32 f36 f37 f38 : Nat → Int32} {se nd bs : Nat} {n p : Nat} (h : RdV T G f29 f30 f31 f32 f36 f37 f38 se nd bs) (hv : ¬ G.V n) (hn : n < nd) (h4 : n < 4000) (hk : f29 n = nI 0) (hp : 1 ≤ p) (ha : -1000200 ≤ (f30 n).toInt ∧ (f30 n).toInt ≤ 1000200) : RdV T (G.add n 0 p 0) f29 f30 f31 f32 f36 f37 f38 se nd bs :=
  h.add hv hn h4 hk (Or.inl ⟨rfl, by show 1 ≤ (if n = n then p else G.pd n); rw [if_pos rfl]; exact hp, ha⟩) (fun e => absurd e (by decide)) (by decide)
theorem RdV.bnd {T : Nat → Nat → Int32} {G : RG} {f29 f30 f31 f32 f36 f37 f38 : Nat → Int32} {se nd bs : Nat} {n p : Nat} (h : RdV T G f29 f30 f31 f32 f36 f37 f38 se nd bs) (hv : ¬ G.V n) (hn : n < nd) (h4 : n < 4000) {x : Nat} (hk : f29 n = nI 1) (hp : 1 ≤ p) (hx : x < 60) (ha : f30 n = nI x) : RdV T (G.add n 0 p 0) f29 f30 f31 f32 f36 f37 f38 se nd bs :=
  h.add hv hn h4 hk (Or.inr (Or.inl ⟨rfl, by show 1 ≤ (if n = n then p else G.pd n); rw [if_pos rfl]; exact hp, x, hx, ha⟩)) (fun e => absurd e (by decide)) (by decide)
theorem RG.wtn {G : RG} {n w p : Nat} {b : Int32} : (G.add n w p b).wt n = w := if_pos rfl
theorem RG.pdn {G : RG} {n w p : Nat} {b : Int32} : (G.add n w p b).pd n = p := if_pos rfl
theorem RG.wto {G : RG} {n w p c : Nat} {b : Int32} (hv : ¬ G.V n) (hc : G.V c) : (G.add n w p b).wt c = G.wt c := if_neg (fun e : c = n => hv (e ▸ hc))
theorem RG.pdo {G : RG} {n w p c : Nat} {b : Int32} (hv : ¬ G.V n) (hc : G.V c) : (G.add n w p b).pd c = G.pd c := if_neg (fun e : c = n => hv (e ▸ hc))
theorem RdV.turn {T : Nat → Nat → Int32} {G : RG} {f29 f30 f31 f32 f36 f37 f38 : Nat → Int32} {se nd bs : Nat} {n p : Nat} (h : RdV T G f29 f30 f31 f32 f36 f37 f38 se nd bs) (hv : ¬ G.V n) (hn : n < nd) (h4 : n < 4000) {c P : Nat} (hk : f29 n = nI 4) (hp : 1 ≤ p) (ha : f30 n = nI c) (hc : LinO G f29 c P) (hP : P ≤ p) : RdV T (G.add n (G.wt c + 3) p 0) f29 f30 f31 f32 f36 f37 f38 se nd bs :=
  h.add hv hn h4 hk (Or.inr (Or.inr (Or.inr (Or.inl ⟨rfl, by rw [RG.pdn]; exact hp, c, h.kid hv hc hP ha, by rw [RG.wto hv hc.1, RG.wtn]; exact Nat.le_refl _⟩)))) (fun e => absurd e (by decide)) (by decide)
theorem RdV.pair {T : Nat → Nat → Int32} {G : RG} {f29 f30 f31 f32 f36 f37 f38 : Nat → Int32} {se nd bs : Nat} {n p : Nat} (h : RdV T G f29 f30 f31 f32 f36 f37 f38 se nd bs) (hv : ¬ G.V n) (hn : n < nd) (h4 : n < 4000) {k c d P Q : Nat} (hk : f29 n = nI k) (hkk : (5 ≤ k ∧ k ≤ 8) ∨ k = 13) (ha : f30 n = nI c) (hb : f31 n = nI d) (hc : LinO G f29 c P) (hd : LinO G f29 d Q) (hp : 2 ≤ p) (hP : P ≤ p) (hQ : Q + 1 ≤ p) : RdV T (G.add n (G.wt c + G.wt d + 3) p 0) f29 f30 f31 f32 f36 f37 f38 se nd bs :=
  h.add hv hn h4 hk (Or.inr (Or.inr (Or.inr (Or.inr (Or.inl ⟨hkk, by rw [RG.pdn]; exact hp, c, d, h.kid hv hc hP ha, h.kid hv hd hQ hb, by rw [RG.wto hv hc.1, RG.wto hv hd.1, RG.wtn]; exact Nat.le_refl _⟩))))) (fun e => absurd e (by omega)) (by omega)
theorem RdV.join {T : Nat → Nat → Int32} {G : RG} {f29 f30 f31 f32 f36 f37 f38 : Nat → Int32} {se nd bs : Nat} {n p : Nat} (h : RdV T G f29 f30 f31 f32 f36 f37 f38 se nd bs) (hv : ¬ G.V n) (hn : n < nd) (h4 : n < 4000) {k c d P Q : Nat} (hk : f29 n = nI k) (hkk : k = 10 ∨ k = 11) (ha : f30 n = nI c) (hb : f31 n = nI d) (hc : TruO G f29 c P) (hd : TruO G f29 d Q) (hP : P ≤ p) (hQ : Q ≤ p) : RdV T (G.add n (G.wt c + G.wt d + 3) p 0) f29 f30 f31 f32 f36 f37 f38 se nd bs :=
  h.add hv hn h4 hk (Or.inr (Or.inr (Or.inr (Or.inr (Or.inr (Or.inr (Or.inl ⟨hkk, c, d, h.kidT hv hc hP ha, h.kidT hv hd hQ hb, by rw [RG.wto hv hc.1, RG.wto hv hd.1, RG.wtn]; exact Nat.le_refl _⟩))))))) (fun e => absurd e (by omega)) (by omega)
theorem RdV.not {T : Nat → Nat → Int32} {G : RG} {f29 f30 f31 f32 f36 f37 f38 : Nat → Int32} {se nd bs : Nat} {n p : Nat} (h : RdV T G f29 f30 f31 f32 f36 f37 f38 se nd bs) (hv : ¬ G.V n) (hn : n < nd) (h4 : n < 4000) {c P : Nat} (hk : f29 n = nI 12) (ha : f30 n = nI c) (hc : TruO G f29 c P) (hP : P ≤ p) : RdV T (G.add n (G.wt c + 3) p 0) f29 f30 f31 f32 f36 f37 f38 se nd bs :=
  h.add hv hn h4 hk (Or.inr (Or.inr (Or.inr (Or.inr (Or.inr (Or.inr (Or.inr ⟨rfl, c, h.kidT hv hc hP ha, by rw [RG.wto hv hc.1, RG.wtn]; exact Nat.le_refl _⟩))))))) (fun e => absurd e (by decide)) (by decide)
theorem NamS.nd {T : Nat → Nat → Int32} {mb f29 f30 f31 f32 f36 f37 f38 : Nat → Int32} {se k a pl o1 o2 aT : Nat} (h : NamS T se k a pl o1 o2 aT) : NamS (ndF T mb f29 f30 f31 f32 f36 f37 f38) se k a pl o1 o2 aT := h.cg (fun x hx => ndF_T hx)
theorem RdV.name0 {T : Nat → Nat → Int32} {G : RG} {f29 f30 f31 f32 f36 f37 f38 : Nat → Int32} {se nd bs : Nat} {n p : Nat} (h : RdV T G f29 f30 f31 f32 f36 f37 f38 se nd bs) (hv : ¬ G.V n) (hn : n < nd) (h4 : n < 4000) {k a pl o1 o2 aT : Nat} (hkk : k = 2 ∨ k = 3) (hk : f29 n = nI k) (ha : f30 n = nI a ∧ a < 44) (hS : NamS T se k a pl o1 o2 aT) (hp : 1 ≤ p) (h0 : pl = 0) (hb : f31 n = -1) (hc : f32 n = -1) : RdV T (G.add n 0 p 0) f29 f30 f31 f32 f36 f37 f38 se nd bs :=
  h.add hv hn h4 hk (Or.inr (Or.inr (Or.inl ⟨hkk, by rw [RG.pdn]; exact hp, a, pl, o1, o2, aT, 0, 0, ⟨ha, hS.nd, Or.inl ⟨h0, hb⟩, Or.inl ⟨by omega, hc⟩, Or.inl h0⟩⟩))) (fun e => absurd e (by omega)) (by omega)
theorem RdV.name1 {T : Nat → Nat → Int32} {G : RG} {f29 f30 f31 f32 f36 f37 f38 : Nat → Int32} {se nd bs : Nat} {n p : Nat} (h : RdV T G f29 f30 f31 f32 f36 f37 f38 se nd bs) (hv : ¬ G.V n) (hn : n < nd) (h4 : n < 4000) {k a pl o1 o2 aT : Nat} (hkk : k = 2 ∨ k = 3) (hk : f29 n = nI k) (ha : f30 n = nI a ∧ a < 44) (hS : NamS T se k a pl o1 o2 aT) (hp : 1 ≤ p) (h0 : pl = 1) {d P : Nat} (hb : f31 n = nI d) (hd : LinO G f29 d P) (hP : P ≤ p) (hc : f32 n = -1) : RdV T (G.add n (G.wt d + 4) p 0) f29 f30 f31 f32 f36 f37 f38 se nd bs :=
  h.add hv hn h4 hk (Or.inr (Or.inr (Or.inl ⟨hkk, by rw [RG.pdn]; exact hp, a, pl, o1, o2, aT, d, 0, ⟨ha, hS.nd, Or.inr ⟨by omega, h.kid hv hd hP hb⟩, Or.inl ⟨by omega, hc⟩, Or.inr ⟨by rw [RG.wto hv hd.1, RG.wtn]; exact Nat.le_refl _, Or.inl h0⟩⟩⟩))) (fun e => absurd e (by omega)) (by omega)
theorem RdV.name2 {T : Nat → Nat → Int32} {G : RG} {f29 f30 f31 f32 f36 f37 f38 : Nat → Int32} {se nd bs : Nat} {n p : Nat} (h : RdV T G f29 f30 f31 f32 f36 f37 f38 se nd bs) (hv : ¬ G.V n) (hn : n < nd) (h4 : n < 4000) {k a pl o1 o2 aT : Nat} (hkk : k = 2 ∨ k = 3) (hk : f29 n = nI k) (ha : f30 n = nI a ∧ a < 44) (hS : NamS T se k a pl o1 o2 aT) (hp : 1 ≤ p) (h0 : pl = 2) {d c P Q : Nat} (hb : f31 n = nI d) (hd : LinO G f29 d P) (hP : P ≤ p) (hcc : f32 n = nI c) (hc : LinO G f29 c Q) (hQ : Q ≤ p) : RdV T (G.add n (G.wt c + G.wt d + 4) p 0) f29 f30 f31 f32 f36 f37 f38 se nd bs :=
  h.add hv hn h4 hk (Or.inr (Or.inr (Or.inl ⟨hkk, by rw [RG.pdn]; exact hp, a, pl, o1, o2, aT, d, c, ⟨ha, hS.nd, Or.inr ⟨by omega, h.kid hv hd hP hb⟩, Or.inr ⟨h0, h.kid hv hc hQ hcc⟩, Or.inr ⟨by rw [RG.wto hv hd.1, RG.wtn]; omega, Or.inr (by rw [RG.wto hv hc.1, RG.wto hv hd.1, RG.wtn]; exact Nat.le_refl _)⟩⟩⟩))) (fun e => absurd e (by omega)) (by omega)
theorem BnO.members {T : Nat → Nat → Int32} {f36 f37 f38 : Nat → Int32} {se b : Nat} (h : BnO f36 f37 f38 se b) (hS : SeO (T 16) (T 17) se) (h44 : se ≤ 44) : ∃ m, MbO (T 17) f36 f37 b m ∧ m ≤ 144 := by
  obtain ⟨⟨o1, h1, e1⟩, h2, _⟩ := h
  obtain ⟨⟨m1, a1, a2, a3⟩, _⟩ := hS o1 h1
  rcases h2 with h2 | ⟨o2, h2, e2⟩
  · exact ⟨m1, ⟨o1, m1, by omega, e1, a3, a2, Or.inl ⟨h2, rfl⟩⟩, by omega⟩
  · obtain ⟨⟨m2, b1, b2, b3⟩, _⟩ := hS o2 h2
    exact ⟨m1 * m2, ⟨o1, m1, by omega, e1, a3, a2, Or.inr ⟨o2, m2, by omega, e2, b3, b2, rfl⟩⟩, Nat.mul_le_mul a2 b2⟩
theorem mbn {T : Nat → Nat → Int32} {G : RG} {f29 f30 f31 f32 f36 f37 f38 : Nat → Int32} {n w p m : Nat} (hm : m ≤ 144) : mbO (ndF T (G.add n w p (nI m)).mb f29 f30 f31 f32 f36 f37 f38) n = m := by
  show ((if n = n then nI m else G.mb n)).toInt.toNat = m
  rw [if_pos rfl, nI_toInt (by omega)]
  rfl
theorem RdV.sum {T : Nat → Nat → Int32} {G : RG} {f29 f30 f31 f32 f36 f37 f38 : Nat → Int32} {se nd bs : Nat} {n p b c m P : Nat} (h : RdV T G f29 f30 f31 f32 f36 f37 f38 se nd bs) (hv : ¬ G.V n) (hn : n < nd) (h4 : n < 4000) (hk : f29 n = nI 9) (hp : 2 ≤ p) (ha : f30 n = nI b) (hb9 : b < 900) (hbs : b < bs) (hB : BnO f36 f37 f38 se b) (hM : MbO (T 17) f36 f37 b m) (hm : m ≤ 144) (hcc : f32 n = nI c) (hc : LinO G f29 c P) (hP : P + 1 ≤ p) (hd : f31 n = -1 ∨ ∃ d, f31 n = nI d ∧ TruO G f29 d (p - 1)) : ∃ w, RdV T (G.add n w p (nI m)) f29 f30 f31 f32 f36 f37 f38 se nd bs := by
  have fin : ∀ x : Nat, f30 n = nI x → x < 900 → x < bs := fun x e h9 => by
    have h1 : b = x := nIinj (by omega) (by omega) (ha.symm.trans e)
    omega
  have hM' : ∀ w, MbO (ndF T (G.add n w p (nI m)).mb f29 f30 f31 f32 f36 f37 f38 17) f36 f37 b (mbO (ndF T (G.add n w p (nI m)).mb f29 f30 f31 f32 f36 f37 f38) n) := fun w => by
    rw [mbn hm, ndF_T (by decide)]; exact hM
  rcases hd with hd | ⟨d, e, hd⟩
  · exact ⟨m * (G.wt c + 5) + 2, h.add hv hn h4 hk (Or.inr (Or.inr (Or.inr (Or.inr (Or.inr (Or.inl ⟨rfl, by rw [RG.pdn]; exact hp, b, c, G.wt c + 5, ha, hb9, hB, hM' _, by rw [mbn hm]; exact hm, ⟨h.kid hv hc hP hcc, by rw [RG.wto hv hc.1]; exact Nat.le_refl _, Or.inl hd⟩, by rw [mbn hm, RG.wtn]; exact Nat.le_refl _⟩)))))) (fun _ => fin) (by decide)⟩
  · exact ⟨m * (G.wt c + G.wt d + 8) + 2, h.add hv hn h4 hk (Or.inr (Or.inr (Or.inr (Or.inr (Or.inr (Or.inl ⟨rfl, by rw [RG.pdn]; exact hp, b, c, G.wt c + G.wt d + 8, ha, hb9, hB, hM' _, by rw [mbn hm]; exact hm, ⟨h.kid hv hc hP hcc, by rw [RG.wto hv hc.1]; omega, Or.inr ⟨d, h.kidT hv hd (by omega) e, by rw [RG.wto hv hc.1, RG.wto hv hd.1]; exact Nat.le_refl _⟩⟩, by rw [mbn hm, RG.wtn]; exact Nat.le_refl _⟩)))))) (fun _ => fin) (by decide)⟩
end
section
/-- a part that may be there: -1, or a finished one -/
def OpL (G : RG) (f29 : Nat → Int32) (x : Int32) (P a : Nat) : Prop := (x = -1 ∧ a = 0) ∨ (a = 1 ∧ ∃ c, x = nI c ∧ LinO G f29 c P)
def OpT (G : RG) (f29 : Nat → Int32) (x : Int32) (P a : Nat) : Prop := (x = -1 ∧ a = 0) ∨ (a = 1 ∧ ∃ c, x = nI c ∧ TruO G f29 c P)
/-- a name node under way, a sum node under way -/
def UnN (T : Nat → Nat → Int32) (f29 f30 : Nat → Int32) (se g pl : Nat) : Prop := ∃ k a o1 o2 aT, (k = 2 ∨ k = 3) ∧ f29 g = nI k ∧ (f30 g = nI a ∧ a < 44) ∧ NamS T se k a pl o1 o2 aT ∧ 1 ≤ pl
def UnS (f29 f30 f36 f37 f38 : Nat → Int32) (se bs u g : Nat) : Prop := f29 g = nI 9 ∧ ∃ b, f30 g = nI b ∧ b < bs ∧ b < 900 ∧ BnO f36 f37 f38 se b ∧ ∃ x, f38 b = nI x ∧ x ≤ 2 + 2 * u
/-- what a reader's frame has under way: i the frame, ek its kind, ck the kind of the frame that it has begun, w its depth, u the sums below it, ex whether it counts, gl gm: the nodes under way of the frames below it, up to it; p1: operators read whose node is to come, n1: nodes under way, m1: sums -/
def RWt (T : Nat → Nat → Int32) (G : RG) (f29 f30 f31 f32 f36 f37 f38 f40 f41 f42 : Nat → Int32) (se bs i ek ck w u ex gl gm p1 n1 m1 : Nat) : Prop :=
  (ex ≤ 1 ∧ (ek ≠ 3 → ex = 1) ∧ (ck = 3 → ex = 1) ∧ gl ≤ gm) ∧
  ((ek = 0 ∧ ck = 1 ∧ f40 i = 1 ∧ n1 = 0 ∧ m1 = 0 ∧ ∃ a b, OpL G f29 (f41 i) (51 - 2 * w) a ∧ OpL G f29 (f42 i) (50 - 2 * w) b ∧ p1 = a + b) ∨
   (ek = 1 ∧ ck = 1 ∧ f40 i = 1 ∧ n1 = 0 ∧ m1 = 0 ∧ p1 = 1) ∨
   (ek = 1 ∧ ck = 0 ∧ f40 i = 2 ∧ n1 = 0 ∧ m1 = 0 ∧ p1 = 0) ∨
   (ek = 1 ∧ ck = 0 ∧ f40 i = 3 ∧ n1 = 1 ∧ m1 = 0 ∧ p1 = 0 ∧ ∃ g pl, f41 i = nI g ∧ gl ≤ g ∧ g < gm ∧ ¬ G.V g ∧ UnN T f29 f30 se g pl ∧ f31 g = -1 ∧ f32 g = -1) ∨
   (ek = 1 ∧ ck = 0 ∧ f40 i = 4 ∧ n1 = 1 ∧ m1 = 0 ∧ p1 = 0 ∧ ∃ g d, f41 i = nI g ∧ gl ≤ g ∧ g < gm ∧ ¬ G.V g ∧ UnN T f29 f30 se g 2 ∧ f31 g = nI d ∧ LinO G f29 d (51 - 2 * w) ∧ f32 g = -1) ∨
   (ek = 1 ∧ ck = 2 ∧ f40 i = 5 ∧ n1 = 1 ∧ m1 = 1 ∧ p1 = 0 ∧ ∃ g, f41 i = nI g ∧ gl ≤ g ∧ g < gm ∧ ¬ G.V g ∧ UnS f29 f30 f36 f37 f38 se bs u g ∧ f31 g = -1) ∨
   (ek = 1 ∧ ck = 1 ∧ f40 i = 6 ∧ n1 = 1 ∧ m1 = 1 ∧ p1 = 0 ∧ ∃ g, f41 i = nI g ∧ gl ≤ g ∧ g < gm ∧ ¬ G.V g ∧ UnS f29 f30 f36 f37 f38 se bs u g ∧ (f31 g = -1 ∨ ∃ d, f31 g = nI d ∧ TruO G f29 d (50 - 2 * w))) ∨
   (ek = 2 ∧ ck = 3 ∧ f40 i = 1 ∧ n1 = 0 ∧ m1 = 0 ∧ ∃ a b, OpT G f29 (f41 i) (51 - 2 * w) a ∧ OpT G f29 (f42 i) (51 - 2 * w) b ∧ p1 = a + b) ∨
   (ek = 3 ∧ ck = 3 ∧ f40 i = 1 ∧ n1 = 0 ∧ m1 = 0 ∧ p1 = 1) ∨
   (ek = 3 ∧ ck = 2 ∧ f40 i = 2 ∧ n1 = 0 ∧ m1 = 0 ∧ p1 = 0) ∨
   (ek = 3 ∧ ck = 0 ∧ f40 i = 3 ∧ n1 = 0 ∧ m1 = 0 ∧ p1 = 0) ∨
   (ek = 3 ∧ ck = 0 ∧ f40 i = 4 ∧ n1 = 0 ∧ m1 = 0 ∧ p1 = 1 ∧ ∃ c, f41 i = nI c ∧ LinO G f29 c (51 - 2 * w)))
/-- nodes and bindings grow: what is finished stays, what lies below gm stays under way -/
def Ext (gm bs : Nat) (G : RG) (f29 f30 f31 f32 f36 f37 f38 : Nat → Int32) (G' : RG) (g29 g30 g31 g32 g36 g37 g38 : Nat → Int32) : Prop :=
  (∀ q, q < gm → g29 q = f29 q ∧ g30 q = f30 q ∧ g31 q = f31 q ∧ g32 q = f32 q) ∧ (∀ q, G.V q → G'.V q ∧ g29 q = f29 q ∧ G'.pd q = G.pd q) ∧ (∀ q, q < gm → G'.V q → G.V q) ∧ ∀ b, b < bs → g36 b = f36 b ∧ g37 b = f37 b ∧ g38 b = f38 b
theorem Ext.lin {gm bs : Nat} {G G' : RG} {f29 f30 f31 f32 f36 f37 f38 g29 g30 g31 g32 g36 g37 g38 : Nat → Int32} (e : Ext gm bs G f29 f30 f31 f32 f36 f37 f38 G' g29 g30 g31 g32 g36 g37 g38) {c P : Nat} (h : LinO G f29 c P) : LinO G' g29 c P := by
  obtain ⟨a1, a2, a3⟩ := e.2.1 c h.1
  exact ⟨a1, by rw [a2]; exact h.2.1, by rw [a3]; exact h.2.2⟩
theorem Ext.tru {gm bs : Nat} {G G' : RG} {f29 f30 f31 f32 f36 f37 f38 g29 g30 g31 g32 g36 g37 g38 : Nat → Int32} (e : Ext gm bs G f29 f30 f31 f32 f36 f37 f38 G' g29 g30 g31 g32 g36 g37 g38) {c P : Nat} (h : TruO G f29 c P) : TruO G' g29 c P := by
  obtain ⟨a1, a2, a3⟩ := e.2.1 c h.1
  exact ⟨a1, by rw [a2]; exact h.2.1, by rw [a3]; exact h.2.2⟩
theorem Ext.opL {gm bs : Nat} {G G' : RG} {f29 f30 f31 f32 f36 f37 f38 g29 g30 g31 g32 g36 g37 g38 : Nat → Int32} (e : Ext gm bs G f29 f30 f31 f32 f36 f37 f38 G' g29 g30 g31 g32 g36 g37 g38) {x : Int32} {P a : Nat} (h : OpL G f29 x P a) : OpL G' g29 x P a := h.imp id (fun ⟨h1, c, h2, h3⟩ => ⟨h1, c, h2, e.lin h3⟩)
theorem Ext.opT {gm bs : Nat} {G G' : RG} {f29 f30 f31 f32 f36 f37 f38 g29 g30 g31 g32 g36 g37 g38 : Nat → Int32} (e : Ext gm bs G f29 f30 f31 f32 f36 f37 f38 G' g29 g30 g31 g32 g36 g37 g38) {x : Int32} {P a : Nat} (h : OpT G f29 x P a) : OpT G' g29 x P a := h.imp id (fun ⟨h1, c, h2, h3⟩ => ⟨h1, c, h2, e.tru h3⟩)
theorem Ext.unN {gm bs : Nat} {G G' : RG} {f29 f30 f31 f32 f36 f37 f38 g29 g30 g31 g32 g36 g37 g38 : Nat → Int32} (e : Ext gm bs G f29 f30 f31 f32 f36 f37 f38 G' g29 g30 g31 g32 g36 g37 g38) {T : Nat → Nat → Int32} {se g pl : Nat} (hg : g < gm) (h : UnN T f29 f30 se g pl) : UnN T g29 g30 se g pl := by
  obtain ⟨k, a, o1, o2, aT, h1, h2, ⟨h3, h4⟩, h5, h6⟩ := h
  obtain ⟨e1, e2, _⟩ := e.1 g hg
  exact ⟨k, a, o1, o2, aT, h1, e1.trans h2, ⟨e2.trans h3, h4⟩, h5, h6⟩
theorem Ext.unS {gm bs bs' : Nat} {G G' : RG} {f29 f30 f31 f32 f36 f37 f38 g29 g30 g31 g32 g36 g37 g38 : Nat → Int32} (e : Ext gm bs G f29 f30 f31 f32 f36 f37 f38 G' g29 g30 g31 g32 g36 g37 g38) (hb : bs ≤ bs') {se u g : Nat} (hg : g < gm) (h : UnS f29 f30 f36 f37 f38 se bs u g) : UnS g29 g30 g36 g37 g38 se bs' u g := by
  obtain ⟨h1, b, h2, h3, h4, h5, x, h6, h7⟩ := h
  obtain ⟨e1, e2, _⟩ := e.1 g hg
  obtain ⟨c1, c2, c3⟩ := e.2.2.2 b h3
  refine ⟨e1.trans h1, b, e2.trans h2, by omega, h4, ?_, x, c3.trans h6, h7⟩
  unfold BnO at h5 ⊢
  rw [c1, c2, c3]
  exact h5
theorem Ext.less {gm gl bs : Nat} {G G' : RG} {f29 f30 f31 f32 f36 f37 f38 g29 g30 g31 g32 g36 g37 g38 : Nat → Int32} (e : Ext gm bs G f29 f30 f31 f32 f36 f37 f38 G' g29 g30 g31 g32 g36 g37 g38) (h : gl ≤ gm) : Ext gl bs G f29 f30 f31 f32 f36 f37 f38 G' g29 g30 g31 g32 g36 g37 g38 := ⟨fun q hq => e.1 q (by omega), e.2.1, fun q hq => e.2.2.1 q (by omega), e.2.2.2⟩
theorem RWt.mono {T : Nat → Nat → Int32} {G G' : RG} {f29 f30 f31 f32 f36 f37 f38 g29 g30 g31 g32 g36 g37 g38 f40 f41 f42 g40 g41 g42 : Nat → Int32} {se bs bs' i ek ck w u ex gl gm p1 n1 m1 : Nat} (h : RWt T G f29 f30 f31 f32 f36 f37 f38 f40 f41 f42 se bs i ek ck w u ex gl gm p1 n1 m1) (e : Ext gm bs G f29 f30 f31 f32 f36 f37 f38 G' g29 g30 g31 g32 g36 g37 g38) (hb : bs ≤ bs') (h40 : g40 i = f40 i) (h41 : g41 i = f41 i) (h42 : g42 i = f42 i) : RWt T G' g29 g30 g31 g32 g36 g37 g38 g40 g41 g42 se bs' i ek ck w u ex gl gm p1 n1 m1 := by
  refine ⟨h.1, ?_⟩
  rcases h.2 with ⟨a1, a2, a3, a4, a5, a, b, a6, a7, a8⟩ | h | h | ⟨a1, a2, a3, a4, a5, a6, g, pl, b1, b2, b3, b4, b5, b6, b7⟩ | ⟨a1, a2, a3, a4, a5, a6, g, d, b1, b2, b3, b4, b5, b6, b7, b8⟩ | ⟨a1, a2, a3, a4, a5, a6, g, b1, b2, b3, b4, b5, b6⟩ | ⟨a1, a2, a3, a4, a5, a6, g, b1, b2, b3, b4, b5, b6⟩ | ⟨a1, a2, a3, a4, a5, a, b, a6, a7, a8⟩ | h | h | h | ⟨a1, a2, a3, a4, a5, a6, c, b1, b2⟩
  · exact Or.inl ⟨a1, a2, h40.trans a3, a4, a5, a, b, by rw [h41]; exact e.opL a6, by rw [h42]; exact e.opL a7, a8⟩
  · exact Or.inr (Or.inl (by rw [h40]; exact h))
  · exact Or.inr (Or.inr (Or.inl (by rw [h40]; exact h)))
  · obtain ⟨_, _, e3, e4⟩ := e.1 g b3
    exact Or.inr (Or.inr (Or.inr (Or.inl ⟨a1, a2, h40.trans a3, a4, a5, a6, g, pl, h41.trans b1, b2, b3, fun q => b4 (e.2.2.1 g b3 q), e.unN b3 b5, e3.trans b6, e4.trans b7⟩)))
  · obtain ⟨_, _, e3, e4⟩ := e.1 g b3
    exact Or.inr (Or.inr (Or.inr (Or.inr (Or.inl ⟨a1, a2, h40.trans a3, a4, a5, a6, g, d, h41.trans b1, b2, b3, fun q => b4 (e.2.2.1 g b3 q), e.unN b3 b5, e3.trans b6, e.lin b7, e4.trans b8⟩))))
  · obtain ⟨_, _, e3, e4⟩ := e.1 g b3
    exact Or.inr (Or.inr (Or.inr (Or.inr (Or.inr (Or.inl ⟨a1, a2, h40.trans a3, a4, a5, a6, g, h41.trans b1, b2, b3, fun q => b4 (e.2.2.1 g b3 q), e.unS hb b3 b5, e3.trans b6⟩)))))
  · obtain ⟨_, _, e3, e4⟩ := e.1 g b3
    exact Or.inr (Or.inr (Or.inr (Or.inr (Or.inr (Or.inr (Or.inl ⟨a1, a2, h40.trans a3, a4, a5, a6, g, h41.trans b1, b2, b3, fun q => b4 (e.2.2.1 g b3 q), e.unS hb b3 b5, b6.imp (fun q => e3.trans q) (fun ⟨d, q, r⟩ => ⟨d, e3.trans q, e.tru r⟩)⟩))))))
  · exact Or.inr (Or.inr (Or.inr (Or.inr (Or.inr (Or.inr (Or.inr (Or.inl ⟨a1, a2, h40.trans a3, a4, a5, a, b, by rw [h41]; exact e.opT a6, by rw [h42]; exact e.opT a7, a8⟩)))))))
  · exact Or.inr (Or.inr (Or.inr (Or.inr (Or.inr (Or.inr (Or.inr (Or.inr (Or.inl (by rw [h40]; exact h)))))))))
  · exact Or.inr (Or.inr (Or.inr (Or.inr (Or.inr (Or.inr (Or.inr (Or.inr (Or.inr (Or.inl (by rw [h40]; exact h))))))))))
  · exact Or.inr (Or.inr (Or.inr (Or.inr (Or.inr (Or.inr (Or.inr (Or.inr (Or.inr (Or.inr (Or.inl (by rw [h40]; exact h)))))))))))
  · exact Or.inr (Or.inr (Or.inr (Or.inr (Or.inr (Or.inr (Or.inr (Or.inr (Or.inr (Or.inr (Or.inr ⟨a1, a2, h40.trans a3, a4, a5, a6, c, h41.trans b1, e.lin b2⟩))))))))))
/-- the reader's frames below the uppermost one: d of them, ck the kind of the one above them -/
def RBel (T : Nat → Nat → Int32) (G : RG) (f29 f30 f31 f32 f36 f37 f38 f39 f40 f41 f42 f48 : Nat → Int32) (se bs r0 : Nat) : Nat → Nat → Nat → Nat → Nat → Nat → Nat → Prop
  | 0, ck, cw, u, pe, un, _ => ck = r0 ∧ cw = 0 ∧ u = 0 ∧ pe = 0 ∧ un = 0
  | d + 1, ck, cw, u, pe, un, gm => ∃ ek cw' u' pe' un' gl ex p1 n1 m1, (f39 d = nI ek ∧ ek ≤ 3 ∧ f48 d = nI ex) ∧ RWt T G f29 f30 f31 f32 f36 f37 f38 f40 f41 f42 se bs d ek ck (cw' + ex) u' ex gl gm p1 n1 m1 ∧ RBel T G f29 f30 f31 f32 f36 f37 f38 f39 f40 f41 f42 f48 se bs r0 d ek cw' u' pe' un' gl ∧ (cw = cw' + ex ∧ u = u' + m1 ∧ pe = pe' + p1 ∧ un = un' + n1) ∧ cw ≤ 25
theorem RBel.congr {T : Nat → Nat → Int32} {G G' : RG} {f29 f30 f31 f32 f36 f37 f38 f39 f40 f41 f42 f48 g29 g30 g31 g32 g36 g37 g38 g39 g40 g41 g42 g48 : Nat → Int32} {se bs bs' r0 : Nat} (hb : bs ≤ bs') : ∀ (d ck cw u pe un gm : Nat), RBel T G f29 f30 f31 f32 f36 f37 f38 f39 f40 f41 f42 f48 se bs r0 d ck cw u pe un gm → Ext gm bs G f29 f30 f31 f32 f36 f37 f38 G' g29 g30 g31 g32 g36 g37 g38 → (∀ q, q < d → g39 q = f39 q ∧ g40 q = f40 q ∧ g41 q = f41 q ∧ g42 q = f42 q ∧ g48 q = f48 q) → RBel T G' g29 g30 g31 g32 g36 g37 g38 g39 g40 g41 g42 g48 se bs' r0 d ck cw u pe un gm
  | 0, _, _, _, _, _, _, h, _, _ => h
  | d + 1, ck, cw, u, pe, un, gm, h, e, hr => by
    obtain ⟨ek, cw', u', pe', un', gl, ex, p1, n1, m1, ⟨a1, a2, a3⟩, a4, a5, a6, a7⟩ := h
    obtain ⟨r1, r2, r3, r4, r5⟩ := hr d (Nat.lt_succ_self d)
    exact ⟨ek, cw', u', pe', un', gl, ex, p1, n1, m1, ⟨r1.trans a1, a2, r5.trans a3⟩, a4.mono e hb r2 r3 r4, RBel.congr hb d ek cw' u' pe' un' gl a5 (e.less a4.1.2.2.2) (fun q hq => hr q (by omega)), a6, a7⟩
/-- how deep the frames may lie -/
theorem RBel.deep {T : Nat → Nat → Int32} {G : RG} {f29 f30 f31 f32 f36 f37 f38 f39 f40 f41 f42 f48 : Nat → Int32} {se bs r0 : Nat} : ∀ (d ck cw u pe un gm : Nat), RBel T G f29 f30 f31 f32 f36 f37 f38 f39 f40 f41 f42 f48 se bs r0 d ck cw u pe un gm → d ≤ 2 * cw + 1 ∧ (ck = 3 → d ≤ 2 * cw) ∧ u ≤ cw
  | 0, _, _, _, _, _, _, h => by obtain ⟨_, h1, h2, _⟩ := h; omega
  | d + 1, ck, cw, u, pe, un, gm, h => by
    obtain ⟨ek, cw', u', pe', un', gl, ex, p1, n1, m1, _, a4, a5, a6, a7⟩ := h
    have ih := RBel.deep d ek cw' u' pe' un' gl a5
    obtain ⟨⟨b1, b2, b3, _⟩, b5⟩ := a4
    have hm : m1 ≤ ex := by
      rcases b5 with h | h | h | h | h | h | h | h | h | h | h | h
      · obtain ⟨h1, _, _, _, h5, _⟩ := h; omega
      · obtain ⟨h1, _, _, _, h5, _⟩ := h; omega
      · obtain ⟨h1, _, _, _, h5, _⟩ := h; omega
      · obtain ⟨h1, _, _, _, h5, _⟩ := h; omega
      · obtain ⟨h1, _, _, _, h5, _⟩ := h; omega
      · obtain ⟨h1, _, _, _, h5, _⟩ := h; (have := b2 (by omega)); omega
      · obtain ⟨h1, _, _, _, h5, _⟩ := h; (have := b2 (by omega)); omega
      · obtain ⟨h1, _, _, _, h5, _⟩ := h; omega
      · obtain ⟨h1, _, _, _, h5, _⟩ := h; omega
      · obtain ⟨h1, _, _, _, h5, _⟩ := h; omega
      · obtain ⟨h1, _, _, _, h5, _⟩ := h; omega
      · obtain ⟨h1, _, _, _, h5, _⟩ := h; omega
    by_cases e3 : ek = 3
    · have := ih.2.1 e3
      by_cases c3 : ck = 3
      · have := b3 c3; omega
      · exact ⟨by omega, fun q => absurd q c3, by omega⟩
    · have := b2 e3
      omega
/-- the value that a frame of the kind ck has read, begun by a frame at the depth w -/
def ResO (G : RG) (f29 : Nat → Int32) (res : Int32) (ck w : Nat) : Prop := ∃ c, res = nI c ∧ ((ck ≤ 1 ∧ w ≤ 24 ∧ LinO G f29 c (49 - 2 * w)) ∨ (ck = 2 ∧ w ≤ 24 ∧ TruO G f29 c (49 - 2 * w)) ∨ (ck = 3 ∧ w ≤ 25 ∧ TruO G f29 c (51 - 2 * w)))
/-- the uppermost frame's own: begun just now (tw: its turns to come), or the frame that it began has come back -/
def RTp (T : Nat → Nat → Int32) (G : RG) (f29 f30 f31 f32 f36 f37 f38 f40 f41 f42 : Nat → Int32) (wd sg res : Int32) (se bs i ek w u ex gl gm p1 n1 m1 tw : Nat) : Prop :=
  (f40 i = 0 ∧ f41 i = -1 ∧ f42 i = -1 ∧ (p1 = 0 ∧ n1 = 0 ∧ m1 = 0 ∧ gm = gl) ∧ (ex ≤ 1 ∧ (ek ≠ 3 → ex = 1)) ∧ (ek = 3 → wd = 2 → sg = 10 → ex = 1) ∧ ((ek = 0 ∧ tw = 3) ∨ (ek = 1 ∧ tw = 1) ∨ (ek = 2 ∧ tw = 7) ∨ (ek = 3 ∧ tw = 5))) ∨
  (tw = 1 ∧ ∃ ck, RWt T G f29 f30 f31 f32 f36 f37 f38 f40 f41 f42 se bs i ek ck w u ex gl gm p1 n1 m1 ∧ ResO G f29 res ck w)
/-- the reader's state within an expression -/
def RdT (T : Nat → Nat → Int32) (G : RG) (f29 f30 f31 f32 f36 f37 f38 f39 f40 f41 f42 f48 : Nat → Int32) (wd sg res : Int32) (se bs r0 d wi nd bd fn M ek cw u pe un gl gm ex p1 n1 m1 tw : Nat) : Prop :=
  (f39 d = nI ek ∧ ek ≤ 3 ∧ f48 d = nI ex) ∧ RBel T G f29 f30 f31 f32 f36 f37 f38 f39 f40 f41 f42 f48 se bs r0 d ek cw u pe un gl ∧ (cw + ex ≤ 25 ∧ wi = cw + ex) ∧ RTp T G f29 f30 f31 f32 f36 f37 f38 f40 f41 f42 wd sg res se bs d ek (cw + ex) u ex gl gm p1 n1 m1 tw ∧
  (nd + pe + p1 ≤ fn ∧ G.vN + un + n1 ≤ nd ∧ 5 * bs ≤ fn ∧ bd ≤ 2 + 2 * (u + m1) ∧ gm ≤ nd ∧ 10 * (4000 - fn) + d + tw ≤ M)
/-- .. or the whole expression has been read -/
def RdS (T : Nat → Nat → Int32) (G : RG) (f29 f30 f31 f32 f36 f37 f38 f39 f40 f41 f42 f48 : Nat → Int32) (wd sg res : Int32) (se bs r0 de wi nd bd fn M : Nat) : Prop :=
  RdV T G f29 f30 f31 f32 f36 f37 f38 se nd bs ∧
  ((de = 0 ∧ wi = 0 ∧ nd ≤ fn ∧ G.vN ≤ nd ∧ 5 * bs ≤ fn ∧ bd ≤ 2 ∧ ∃ c, res = nI c ∧ ((r0 ≤ 1 ∧ LinO G f29 c 51) ∨ (2 ≤ r0 ∧ TruO G f29 c 51))) ∨
   ∃ d ek cw u pe un gl gm ex p1 n1 m1 tw, de = d + 1 ∧ RdT T G f29 f30 f31 f32 f36 f37 f38 f39 f40 f41 f42 f48 wd sg res se bs r0 d wi nd bd fn M ek cw u pe un gl gm ex p1 n1 m1 tw)
end
section
theorem Ext.refl {gm bs : Nat} {G : RG} {f29 f30 f31 f32 f36 f37 f38 : Nat → Int32} (_ : Unit) : Ext gm bs G f29 f30 f31 f32 f36 f37 f38 G f29 f30 f31 f32 f36 f37 f38 := ⟨fun _ _ => ⟨rfl, rfl, rfl, rfl⟩, fun _ h => ⟨h, rfl, rfl⟩, fun _ _ h => h, fun _ _ => ⟨rfl, rfl, rfl⟩⟩
/-- a new node at nd -/
theorem Ext.node {gm bs nd : Nat} {G G' : RG} {f29 f30 f31 f32 f36 f37 f38 g29 g30 g31 g32 g36 g37 g38 : Nat → Int32} {kv av bv cv : Int32} (e : Ext gm bs G f29 f30 f31 f32 f36 f37 f38 G' g29 g30 g31 g32 g36 g37 g38) (hg : gm ≤ nd) (h4 : nd < 2 ^ 31) (hv : ∀ q, G.V q → q < nd) : Ext gm bs G f29 f30 f31 f32 f36 f37 f38 G' (upd g29 (nI nd).toNatClampNeg kv) (upd g30 (nI nd).toNatClampNeg av) (upd g31 (nI nd).toNatClampNeg bv) (upd g32 (nI nd).toNatClampNeg cv) g36 g37 g38 := by
  refine ⟨fun q hq => ?_, fun q hq => ?_, e.2.2.1, e.2.2.2⟩
  · rw [upd_at h4, if_neg (by omega), upd_at h4, if_neg (by omega), upd_at h4, if_neg (by omega), upd_at h4, if_neg (by omega)]
    exact e.1 q hq
  · have := hv q hq
    rw [upd_at h4, if_neg (by omega)]
    exact e.2.1 q hq
/-- a node is finished -/
theorem Ext.add {gm bs n w p : Nat} {b : Int32} {G G' : RG} {f29 f30 f31 f32 f36 f37 f38 g29 g30 g31 g32 g36 g37 g38 : Nat → Int32} (e : Ext gm bs G f29 f30 f31 f32 f36 f37 f38 G' g29 g30 g31 g32 g36 g37 g38) (hg : gm ≤ n) (hv : ¬ G.V n) : Ext gm bs G f29 f30 f31 f32 f36 f37 f38 (G'.add n w p b) g29 g30 g31 g32 g36 g37 g38 := by
  refine ⟨e.1, fun q hq => ?_, fun q hq h => ?_, e.2.2.2⟩
  · obtain ⟨h1, h2, h3⟩ := e.2.1 q hq
    exact ⟨Or.inr h1, h2, (if_neg (fun h : q = n => hv (h ▸ hq))).trans h3⟩
  · rcases h with h | h
    · omega
    · exact e.2.2.1 q hq h
/-- parts of a node under way -/
theorem Ext.b31 {gm bs n : Nat} {v : Int32} {G G' : RG} {f29 f30 f31 f32 f36 f37 f38 g29 g30 g31 g32 g36 g37 g38 : Nat → Int32} (e : Ext gm bs G f29 f30 f31 f32 f36 f37 f38 G' g29 g30 g31 g32 g36 g37 g38) (hg : gm ≤ n) (h4 : n < 2 ^ 31) : Ext gm bs G f29 f30 f31 f32 f36 f37 f38 G' g29 g30 (upd g31 (nI n).toNatClampNeg v) g32 g36 g37 g38 :=
  ⟨fun q hq => by rw [upd_at h4, if_neg (by omega)]; exact e.1 q hq, e.2⟩
theorem Ext.b32 {gm bs n : Nat} {v : Int32} {G G' : RG} {f29 f30 f31 f32 f36 f37 f38 g29 g30 g31 g32 g36 g37 g38 : Nat → Int32} (e : Ext gm bs G f29 f30 f31 f32 f36 f37 f38 G' g29 g30 g31 g32 g36 g37 g38) (hg : gm ≤ n) (h4 : n < 2 ^ 31) : Ext gm bs G f29 f30 f31 f32 f36 f37 f38 G' g29 g30 g31 (upd g32 (nI n).toNatClampNeg v) g36 g37 g38 :=
  ⟨fun q hq => by rw [upd_at h4, if_neg (by omega)]; exact e.1 q hq, e.2⟩
theorem Ext.b30 {gm bs n : Nat} {v : Int32} {G G' : RG} {f29 f30 f31 f32 f36 f37 f38 g29 g30 g31 g32 g36 g37 g38 : Nat → Int32} (e : Ext gm bs G f29 f30 f31 f32 f36 f37 f38 G' g29 g30 g31 g32 g36 g37 g38) (hg : gm ≤ n) (h4 : n < 2 ^ 31) : Ext gm bs G f29 f30 f31 f32 f36 f37 f38 G' g29 (upd g30 (nI n).toNatClampNeg v) g31 g32 g36 g37 g38 :=
  ⟨fun q hq => by rw [upd_at h4, if_neg (by omega)]; exact e.1 q hq, e.2⟩
theorem RdV.node {T : Nat → Nat → Int32} {G : RG} {f29 f30 f31 f32 f36 f37 f38 : Nat → Int32} {se nd bs : Nat} {kv av bv cv : Int32} (h : RdV T G f29 f30 f31 f32 f36 f37 f38 se nd bs) (h4 : nd < 2 ^ 31) : RdV T G (upd f29 (nI nd).toNatClampNeg kv) (upd f30 (nI nd).toNatClampNeg av) (upd f31 (nI nd).toNatClampNeg bv) (upd f32 (nI nd).toNatClampNeg cv) f36 f37 f38 se (nd + 1) bs :=
  h.keep (fun n hn => by (have := (h.2.1 n hn).1); rw [upd_at h4, if_neg (by omega), upd_at h4, if_neg (by omega), upd_at h4, if_neg (by omega), upd_at h4, if_neg (by omega)]; exact ⟨rfl, rfl, rfl, rfl⟩) (fun _ _ => ⟨rfl, rfl, rfl⟩) (Nat.le_succ _) (Nat.le_refl _)
theorem RdV.b31 {T : Nat → Nat → Int32} {G : RG} {f29 f30 f31 f32 f36 f37 f38 : Nat → Int32} {se nd bs n : Nat} {v : Int32} (h : RdV T G f29 f30 f31 f32 f36 f37 f38 se nd bs) (hv : ¬ G.V n) (h4 : n < 2 ^ 31) : RdV T G f29 f30 (upd f31 (nI n).toNatClampNeg v) f32 f36 f37 f38 se nd bs :=
  h.keep (fun q hq => by rw [upd_at h4, if_neg (fun e : q = n => hv (e ▸ hq))]; exact ⟨rfl, rfl, rfl, rfl⟩) (fun _ _ => ⟨rfl, rfl, rfl⟩) (Nat.le_refl _) (Nat.le_refl _)
theorem RdV.b32 {T : Nat → Nat → Int32} {G : RG} {f29 f30 f31 f32 f36 f37 f38 : Nat → Int32} {se nd bs n : Nat} {v : Int32} (h : RdV T G f29 f30 f31 f32 f36 f37 f38 se nd bs) (hv : ¬ G.V n) (h4 : n < 2 ^ 31) : RdV T G f29 f30 f31 (upd f32 (nI n).toNatClampNeg v) f36 f37 f38 se nd bs :=
  h.keep (fun q hq => by rw [upd_at h4, if_neg (fun e : q = n => hv (e ▸ hq))]; exact ⟨rfl, rfl, rfl, rfl⟩) (fun _ _ => ⟨rfl, rfl, rfl⟩) (Nat.le_refl _) (Nat.le_refl _)
theorem RdV.b30 {T : Nat → Nat → Int32} {G : RG} {f29 f30 f31 f32 f36 f37 f38 : Nat → Int32} {se nd bs n : Nat} {v : Int32} (h : RdV T G f29 f30 f31 f32 f36 f37 f38 se nd bs) (hv : ¬ G.V n) (h4 : n < 2 ^ 31) : RdV T G f29 (upd f30 (nI n).toNatClampNeg v) f31 f32 f36 f37 f38 se nd bs :=
  h.keep (fun q hq => by rw [upd_at h4, if_neg (fun e : q = n => hv (e ▸ hq))]; exact ⟨rfl, rfl, rfl, rfl⟩) (fun _ _ => ⟨rfl, rfl, rfl⟩) (Nat.le_refl _) (Nat.le_refl _)
/-- a frame ends: its value is the frame's below it -/
theorem RdS.pop {T : Nat → Nat → Int32} {G G' : RG} {f29 f30 f31 f32 f36 f37 f38 f39 f40 f41 f42 f48 g29 g30 g31 g32 g36 g37 g38 g39 g40 g41 g42 g48 : Nat → Int32} {wd sg : Int32} {se bs bs' r0 d nd' bd' fn' M' ek cw u pe un gl ex c : Nat} (hV : RdV T G' g29 g30 g31 g32 g36 g37 g38 se nd' bs') (hB : RBel T G f29 f30 f31 f32 f36 f37 f38 f39 f40 f41 f42 f48 se bs r0 d ek cw u pe un gl) (e : Ext gl bs G f29 f30 f31 f32 f36 f37 f38 G' g29 g30 g31 g32 g36 g37 g38) (hb : bs ≤ bs') (hr : ∀ q, q < d → g39 q = f39 q ∧ g40 q = f40 q ∧ g41 q = f41 q ∧ g42 q = f42 q ∧ g48 q = f48 q) (h25 : cw + ex ≤ 25) (hex : ek ≠ 3 → ex = 1) (hek : ek ≤ 3)
    (hc : (ek ≤ 1 ∧ LinO G' g29 c (51 - 2 * (cw + ex))) ∨ (2 ≤ ek ∧ TruO G' g29 c (51 - 2 * (cw + ex)))) (hn : nd' + pe ≤ fn') (hv : G'.vN + un ≤ nd') (h5 : 5 * bs' ≤ fn') (hbd : bd' ≤ 2 + 2 * u) (hgl : gl ≤ nd') (hM : 10 * (4000 - fn') + d ≤ M') :
    RdS T G' g29 g30 g31 g32 g36 g37 g38 g39 g40 g41 g42 g48 wd sg (nI c) se bs' r0 d cw nd' bd' fn' M' := by
  refine ⟨hV, ?_⟩
  match d, hB, hr, hM with
  | 0, hB, _, _ =>
    obtain ⟨rfl, rfl, rfl, rfl, rfl⟩ := hB
    refine Or.inl ⟨rfl, rfl, by omega, by omega, h5, by omega, c, rfl, ?_⟩
    rcases hc with hc | hc
    · exact Or.inl ⟨hc.1, hc.2.mono (by omega)⟩
    · exact Or.inr ⟨hc.1, hc.2.mono (by omega)⟩
  | d + 1, hB, hr, hM =>
    obtain ⟨ek', cw', u', pe', un', gl', ex', p1, n1, m1, ⟨a1, a2, a3⟩, a4, a5, ⟨rfl, rfl, rfl, rfl⟩, a7⟩ := hB
    obtain ⟨r1, r2, r3, r4, r5⟩ := hr d (Nat.lt_succ_self d)
    refine Or.inr ⟨d, ek', cw', u', pe', un', gl', gl, ex', p1, n1, m1, 1, rfl, ⟨r1.trans a1, a2, r5.trans a3⟩, RBel.congr hb d ek' cw' u' pe' un' gl' a5 (e.less a4.1.2.2.2) (fun q hq => hr q (by omega)), ⟨a7, rfl⟩, Or.inr ⟨rfl, ek, a4.mono e hb r2 r3 r4, c, rfl, ?_⟩, by omega, by omega, h5, by omega, hgl, by omega⟩
    rcases hc with hc | hc
    · have := hex (by omega)
      exact Or.inl ⟨hc.1, by omega, hc.2.mono (by omega)⟩
    · by_cases h3 : ek = 3
      · exact Or.inr (Or.inr ⟨h3, by omega, hc.2.mono (by omega)⟩)
      · have := hex h3
        exact Or.inr (Or.inl ⟨by omega, by omega, hc.2.mono (by omega)⟩)
/-- a frame has been begun at dp -/
def BgO (rv wd sg : Int32) (g39 g40 g41 g42 g48 : Nat → Int32) (dp wi d2 w2 : Nat) : Prop := ∃ ex, (ex ≤ 1 ∧ (rv ≠ 3 → ex = 1) ∧ (wd = 2 → sg = 10 → ex = 1)) ∧ (w2 = wi + ex ∧ w2 ≤ 25 ∧ d2 = dp + 1) ∧ g39 dp = rv ∧ g40 dp = 0 ∧ g41 dp = -1 ∧ g42 dp = -1 ∧ g48 dp = nI ex
def FrmO (dp : Nat) (f39 f40 f41 f42 f48 g39 g40 g41 g42 g48 : Nat → Int32) : Prop := ∀ q, q ≠ dp → g39 q = f39 q ∧ g40 q = f40 q ∧ g41 q = f41 q ∧ g42 q = f42 q ∧ g48 q = f48 q
theorem RdS.push {T : Nat → Nat → Int32} {G G' : RG} {f29 f30 f31 f32 f36 f37 f38 f39 f40 f41 f42 f48 g29 g30 g31 g32 g36 g37 g38 h39 h40 h41 h42 h48 g39 g40 g41 g42 g48 : Nat → Int32} {rv wd sg res : Int32} {se bs bs' r0 d de' wi' nd' bd' fn' M' ek ck cw u pe un gl gm ex p1 n1 m1 : Nat} (hV : RdV T G' g29 g30 g31 g32 g36 g37 g38 se nd' bs') (hB : RBel T G f29 f30 f31 f32 f36 f37 f38 f39 f40 f41 f42 f48 se bs r0 d ek cw u pe un gl) (e : Ext gl bs G f29 f30 f31 f32 f36 f37 f38 G' g29 g30 g31 g32 g36 g37 g38) (hb : bs ≤ bs') (hr : ∀ q, q < d → h39 q = f39 q ∧ h40 q = f40 q ∧ h41 q = f41 q ∧ h42 q = f42 q ∧ h48 q = f48 q) (h39' : h39 d = nI ek) (hek : ek ≤ 3) (h48' : h48 d = nI ex) (h25 : cw + ex ≤ 25)
    (hW : RWt T G' g29 g30 g31 g32 g36 g37 g38 h40 h41 h42 se bs' d ek ck (cw + ex) u ex gl gm p1 n1 m1) (hF : FrmO (d + 1) h39 h40 h41 h42 h48 g39 g40 g41 g42 g48) (hG : BgO rv wd sg g39 g40 g41 g42 g48 (d + 1) (cw + ex) de' wi') (hrv : rv = nI ck) (hck : ck ≤ 3)
    (hn : nd' + pe + p1 ≤ fn') (hv : G'.vN + un + n1 ≤ nd') (h5 : 5 * bs' ≤ fn') (hbd : bd' ≤ 2 + 2 * (u + m1)) (hgm : gm ≤ nd') (hM : 10 * (4000 - fn') + d + 1 + (if ck = 0 then 3 else if ck = 1 then 1 else if ck = 2 then 7 else 5) ≤ M') :
    RdS T G' g29 g30 g31 g32 g36 g37 g38 g39 g40 g41 g42 g48 wd sg res se bs' r0 de' wi' nd' bd' fn' M' := by
  obtain ⟨ex2, ⟨b1, b2, b3⟩, ⟨b4, b5, b6⟩, b7, b8, b9, b10, b11⟩ := hG
  have hne : ck ≠ 3 → rv ≠ 3 := fun h1 h2 => h1 (nIinj (by omega) (by decide) (hrv.symm.trans h2))
  obtain ⟨q1, q2, q3, q4, q5⟩ := hF d (by omega)
  refine ⟨hV, Or.inr ⟨d + 1, ck, cw + ex, u + m1, pe + p1, un + n1, gm, gm, ex2, 0, 0, 0, (if ck = 0 then 3 else if ck = 1 then 1 else if ck = 2 then 7 else 5), b6, ⟨b7.trans hrv, hck, b11⟩,
    ⟨ek, cw, u, pe, un, gl, ex, p1, n1, m1, ⟨q1.trans h39', hek, q5.trans h48'⟩, hW.mono (Ext.refl ()) (Nat.le_refl _) q2 q3 q4, RBel.congr hb d ek cw u pe un gl hB e (fun q hq => ?_), ⟨rfl, rfl, rfl, rfl⟩, h25⟩, ⟨by omega, by omega⟩,
    Or.inl ⟨b8, b9, b10, ⟨rfl, rfl, rfl, rfl⟩, ⟨b1, fun h => b2 (hne h)⟩, fun _ => b3, ?_⟩, by omega, by omega, h5, by omega, hgm, by omega⟩⟩
  · obtain ⟨q1, q2, q3, q4, q5⟩ := hF q (by omega)
    obtain ⟨r1, r2, r3, r4, r5⟩ := hr q hq
    exact ⟨q1.trans r1, q2.trans r2, q3.trans r3, q4.trans r4, q5.trans r5⟩
  · have h9 : ck = 0 ∨ ck = 1 ∨ ck = 2 ∨ ck = 3 := by omega
    rcases h9 with rfl | rfl | rfl | rfl
    · exact Or.inl ⟨rfl, rfl⟩
    · exact Or.inr (Or.inl ⟨rfl, rfl⟩)
    · exact Or.inr (Or.inr (Or.inl ⟨rfl, rfl⟩))
    · exact Or.inr (Or.inr (Or.inr ⟨rfl, rfl⟩))
/-- the first frame -/
theorem RdS.first {T : Nat → Nat → Int32} {G : RG} {f29 f30 f31 f32 f36 f37 f38 g39 g40 g41 g42 g48 : Nat → Int32} {rv wd sg res : Int32} {se bs r0 de' wi' nd bd fn M' : Nat} (hV : RdV T G f29 f30 f31 f32 f36 f37 f38 se nd bs) (hG : BgO rv wd sg g39 g40 g41 g42 g48 0 0 de' wi') (hrv : rv = nI r0) (hck : r0 ≤ 3) (hn : nd ≤ fn) (hv : G.vN ≤ nd) (h5 : 5 * bs ≤ fn) (hbd : bd ≤ 2) (hM : 10 * (4000 - fn) + 7 ≤ M') :
    RdS T G f29 f30 f31 f32 f36 f37 f38 g39 g40 g41 g42 g48 wd sg res se bs r0 de' wi' nd bd fn M' := by
  obtain ⟨ex2, ⟨b1, b2, b3⟩, ⟨b4, b5, b6⟩, b7, b8, b9, b10, b11⟩ := hG
  have hne : r0 ≠ 3 → rv ≠ 3 := fun h1 h2 => h1 (nIinj (by omega) (by decide) (hrv.symm.trans h2))
  have h9 : r0 = 0 ∨ r0 = 1 ∨ r0 = 2 ∨ r0 = 3 := by omega
  refine ⟨hV, Or.inr ⟨0, r0, 0, 0, 0, 0, 0, 0, ex2, 0, 0, 0, (if r0 = 0 then 3 else if r0 = 1 then 1 else if r0 = 2 then 7 else 5), b6, ⟨b7.trans hrv, hck, b11⟩, ⟨rfl, rfl, rfl, rfl, rfl⟩, ⟨by omega, by omega⟩,
    Or.inl ⟨b8, b9, b10, ⟨rfl, rfl, rfl, rfl⟩, ⟨b1, fun h => b2 (hne h)⟩, fun _ => b3, ?_⟩, by omega, by omega, h5, by omega, by omega, ?_⟩⟩
  · rcases h9 with rfl | rfl | rfl | rfl
    · exact Or.inl ⟨rfl, rfl⟩
    · exact Or.inr (Or.inl ⟨rfl, rfl⟩)
    · exact Or.inr (Or.inr (Or.inl ⟨rfl, rfl⟩))
    · exact Or.inr (Or.inr (Or.inr ⟨rfl, rfl⟩))
  · rcases h9 with rfl | rfl | rfl | rfl
    · show 10 * (4000 - fn) + 0 + 3 ≤ M'; omega
    · show 10 * (4000 - fn) + 0 + 1 ≤ M'; omega
    · show 10 * (4000 - fn) + 0 + 7 ≤ M'; omega
    · show 10 * (4000 - fn) + 0 + 5 ≤ M'; omega
end
section
/-- the same letters at x and at y, n of them -/
def SmT (tp : Nat → Int32) (x n y m : Nat) : Prop := n = m ∧ ∀ q, q < n → tp (x + q) = tp (y + q)
/-- the word at fn .. an is the k-th of the names -/
def SmW (tp f g : Nat → Int32) (fn an k : Nat) : Prop := ∃ x y : Nat, f k = nI x ∧ g k = nI y ∧ x + y ≤ 4000 ∧ SmT tp x y fn (an - fn)
theorem nIinj' {a b : Nat} (ha : a ≤ 4000) (hb : b ≤ 4000) (h : nI a = nI b) : a = b := by
  have h := congrArg Int32.toInt h
  rw [nI_toInt (by omega), nI_toInt (by omega)] at h
  omega
theorem SmW.no {tp f g : Nat → Int32} {fn an k x y : Nat} (e1 : f k = nI x) (e2 : g k = nI y) (h4 : x + y ≤ 4000) (h : ¬ SmT tp x y fn (an - fn)) : ¬ SmW tp f g fn an k := fun ⟨x9, y9, h1, h2, h3, h5⟩ => by
  obtain rfl : x = x9 := nIinj' (by omega) (by omega) (e1.symm.trans h1)
  obtain rfl : y = y9 := nIinj' (by omega) (by omega) (e2.symm.trans h2)
  exact h h5
/-- a number or a bracket may begin here, or a name that is bound, or a number's or a variable's -/
def CbO (tp f10 f11 f12 f14 f15 : Nat → Int32) (fn an nm bd : Nat) : Prop := (∃ k, k < bd ∧ SmW tp f14 f15 fn an k) ∨ ∃ k, k < nm ∧ SmW tp f11 f12 fn an k ∧ (∀ j, j < k → ¬ SmW tp f11 f12 fn an j) ∧ (f10 k = 2 ∨ f10 k = 3)
def CbQ (wd : Int32) (tp f10 f11 f12 f14 f15 : Nat → Int32) (fn an nm bd : Nat) : Prop := wd.toInt = 1 → CbO tp f10 f11 f12 f14 f15 fn an nm bd
def CbW (wd sg : Int32) : Prop := wd.toInt = 3 ∨ wd.toInt = 1 ∨ (wd.toInt = 4 ∧ sg = 45) ∨ (wd.toInt = 4 ∧ sg = 40) ∨ (wd.toInt = 2 ∧ sg = 12)
end
section
def wsRsameTextf : List Cond := .code yX12_sameText cX12_sameText 7 (some .boolean) :: ([.fieldLink RX12 39 "OptimaWorksModel" "tape" "[B"] ++ wsX120)
theorem iwsRsameTextf_in12 : ∀ w ∈ wsX120, w ∈ wsRsameTextf := fun _ h => List.mem_cons_of_mem _ (List.mem_append_right _ h)
theorem gdwsRsameTextf : wsRsameTextf.all goodWord = true := gdC rfl (gdA (by decide +kernel : ([.fieldLink RX12 39 "OptimaWorksModel" "tape" "[B"] : List Cond).all goodWord = true) gdwsX120)
theorem hm_r_X12_sameTextf_0 : (.fieldLink RX12 39 "OptimaWorksModel" "tape" "[B" : Cond) ∈ wsRsameTextf := by decide +kernel
set_option maxHeartbeats 4000000 in
set_option maxRecDepth 100000 in
/-- sameText(a, n, b, m), told -/
theorem r_X12_sameTextf (l : Launch) (dC : Nat → ClassId) (dI : Nat → Nat → Nat) (a : Nat → Nat) (k : Nat → ClassId) (h0 : Nat) (vi : Nat → Int32) (vj : Nat → Int64) (vF : Nat → Nat → Int32) (vG : Nat → Nat → Int64) (xa : Nat) (xn : Nat) (xb : Nat) (xm : Nat) (h1 : xa + xn ≤ 4000) (h2 : xb + xm ≤ 4000) (sz : Nat) : Met l yX12_sameText wsRsameTextf ({ frames := 0, cells := 0, slots := 0, locals := 0 }) (va_Pc [.ref h0, .int (nI xa), .int (nI xn), .int (nI xb), .int (nI xm)] (fun U => U.heap.size = sz ∧ va_P (dC, dI) vwCl (WR a k h0 vi vj vF vG) U.heap ∧ va_K (dC, dI) vwCl (tX12 k) U ∧ va_D (fun _ => True) (WR a k h0 vi vj vF vG))) (va_Qi (fun (r : Int32) (u : Unit) => (((r) = 0 ∧ ¬ SmT (vF 9) xa xn xb xm) ∨ ((r) = 1 ∧ SmT (vF 9) xa xn xb xm))) (fun (u : Unit) t => va_P (dC, dI) vwCl (WR a k h0 vi vj vF vG) t.heap ∧ va_D (va_A (WR a k h0 vi vj vF vG) sz) (WR a k h0 vi vj vF vG)) (va_A (WR a k h0 vi vj vF vG) sz)) 0 0 (va_A (WR a k h0 vi vj vF vG) sz) := by
  refine Met.ofW (cc := cX12_sameText) (maxL := 7) (ret := (some .boolean)) (by decide) rfl ?_
  intro p e s m args below meth c s₁ B hml hv
  obtain ⟨rfl, hsz, hP, hK, hD0⟩ := hv
  have hx := B.exec
  have hb := B.bytes
  have hr := B.returns
  have hts := atoms_spec (ws := wsRsameTextf) B.pre
  have hown : s.vm.findClass RX12 = some m.cls := findClass_of_methodNamed B.named
  have hlocks := B.notSynchronized
  subst hsz
  have hD := hD0.self (sz := s.heap.size)
  generalize hAe : va_A (WR a k h0 vi vj vF vG) s.heap.size = A at hD ⊢
  have hA : ∀ q : Nat, s.heap.size ≤ q → A q := fun q h => by rw [← hAe]; exact Or.inr h
  have hS : va_S A s.heap s.heap [] := va_S.rf
  have hl := lv_entry ([.ref h0, .int (nI xa), .int (nI xn), .int (nI xb), .int (nI xm)]) (n := 7) (Nat.le_of_ble_eq_true rfl)
  rw [lg_entry_eq]
  generalize (lg_sl ([.ref h0, .int (nI xa), .int (nI xn), .int (nI xb), .int (nI xm)]) ++ List.replicate (7 - (lg_sl ([.ref h0, .int (nI xa), .int (nI xn), .int (nI xb), .int (nI xm)])).length) Slot.unset).toArray = ls at hl ⊢
  have hl : lv_has ls 7 [(0, .ref h0), (1, .int (nI xa)), (2, .int (nI xn)), (3, .int (nI xb)), (4, .int (nI xm))] := hl
  refine lv_iload_n hx hb dX12_sameText_0 rfl (lv_at hl 2 rfl) ?_
  refine lv_iload hx hb dX12_sameText_1 (lv_at hl 4 rfl) ?_
  refine W.cut (pc := 13) (fun H locs ls stk => ∃ (zq : Int32), ((zq = 0 ∧ ¬ SmT (vF 9) xa xn xb xm) ∨ (zq = 1 ∧ xn = xm ∧ ∀ q, q < 0 → (vF 9) (xa + q) = (vF 9) (xb + q))) ∧  stk = [] ∧ va_P (dC, dI) vwCl (WR a k h0 vi vj vF vG) H ∧ va_D A (WR a k h0 vi vj vF vG) ∧ va_S A s.heap H locs ∧ lv_has ls 7 [(0, .ref h0), (1, .int (nI xa)), (2, .int (nI xn)), (3, .int (nI xb)), (5, .int zq)]) (fun join1 => ?_) ?_
  · refine lv_icmp_ne (tgt := 10) hx hb dX12_sameText_3 (by decide) (fun c_3 => ?_) (fun c_3 => ?_)
    · have t_3 : ((xn : Nat) : Int) ≠ ((xm : Nat) : Int) := toI_ne c_3 (nI_toInt (by omega)) (nI_toInt (by omega))
      refine lv_iconst (v := 0) hx hb dX12_sameText_10 (by decide) ?_
      refine lv_istore hx hb dX12_sameText_11 hl (by decide) rfl (fun ls (hl : lv_has ls _ ([(5, .int 0), (0, .ref h0), (1, .int (nI xa)), (2, .int (nI xn)), (3, .int (nI xb)), (4, .int (nI xm))])) => ?_)
      have hl : lv_has _ _ ([(0, .ref h0), (1, .int (nI xa)), (2, .int (nI xn)), (3, .int (nI xb)), (5, .int 0)]) := lv_sub hl [1, 2, 3, 4, 0] rfl
      exact join1 _ _ _ _ ⟨0, Or.inl ⟨rfl, fun h9 => absurd h9.1 (by omega)⟩, rfl, hP, hD, hS, hl⟩
    · have t_3 : ((xn : Nat) : Int) = ((xm : Nat) : Int) := toI_nne c_3 (nI_toInt (by omega)) (nI_toInt (by omega))
      refine lv_iconst (v := 1) hx hb dX12_sameText_6 (by decide) ?_
      refine lv_goto (tgt := 11) hx hb dX12_sameText_7 (by decide) ?_
      refine lv_istore hx hb dX12_sameText_11 hl (by decide) rfl (fun ls (hl : lv_has ls _ ([(5, .int 1), (0, .ref h0), (1, .int (nI xa)), (2, .int (nI xn)), (3, .int (nI xb)), (4, .int (nI xm))])) => ?_)
      have hl : lv_has _ _ ([(0, .ref h0), (1, .int (nI xa)), (2, .int (nI xn)), (3, .int (nI xb)), (5, .int 1)]) := lv_sub hl [1, 2, 3, 4, 0] rfl
      exact join1 _ _ _ _ ⟨1, Or.inr ⟨rfl, by omega, fun q hq => absurd hq (by omega)⟩, rfl, hP, hD, hS, hl⟩
  · rintro H locs ls stk ⟨zq, hzq, rfl, hP, hD, hS, hl⟩
    refine lv_iconst (v := 0) hx hb dX12_sameText_13 (by decide) ?_
    refine lv_istore hx hb dX12_sameText_14 hl (by decide) rfl (fun ls (hl : lv_has ls _ ([(6, .int 0), (0, .ref h0), (1, .int (nI xa)), (2, .int (nI xn)), (3, .int (nI xb)), (5, .int zq)])) => ?_)
    have hl : lv_has _ _ ([(0, .ref h0), (1, .int (nI xa)), (2, .int (nI xn)), (3, .int (nI xb)), (5, .int zq), (6, .int (nI 0))]) := lv_sub hl [1, 2, 3, 4, 5, 0] rfl
    refine (fun (loop : ∀ (n9 : Nat) (k5 : Nat) (zw : Int32) (H : Heap) (locs : List Loc) (ls : Array Slot), (k5 ≤ xn) → ((zw = 0 ∧ ¬ SmT (vF 9) xa xn xb xm) ∨ (zw = 1 ∧ xn = xm ∧ ∀ q, q < k5 → (vF 9) (xa + q) = (vF 9) (xb + q))) →  (xn < k5 + n9) → va_P (dC, dI) vwCl (WR a k h0 vi vj vF vG) H → va_D A (WR a k h0 vi vj vF vG) → va_S A s.heap H locs → lv_has ls 7 [(0, .ref h0), (1, .int (nI xa)), (2, .int (nI xn)), (3, .int (nI xb)), (5, .int zw), (6, .int (nI k5))] → W p l e _ s m _ below meth c H locs 0 0 _ (F0 m 16 ls [])) => loop (xn + 1) 0 zq _ _ _ (by omega) (hzq) (by omega) hP hD hS hl) ?_
    intro n9
    induction n9 with
    | zero => intro k5 zw H locs ls hk5 hzw hf9; exact False.elim (by omega)
    | succ n9 ih16 =>
      intro k5 zw H locs ls hk5 hzw hf16 hP hD hS hl
      refine lv_iload hx hb dX12_sameText_16 (lv_at hl 5 rfl) ?_
      refine lv_iload_n hx hb dX12_sameText_18 rfl (lv_at hl 2 rfl) ?_
      refine lv_icmp_ge (tgt := 61) hx hb dX12_sameText_19 (by decide) (fun c_19 => ?_) (fun c_19 => ?_)
      · have t_19 : ((k5 : Nat) : Int) ≥ ((xn : Nat) : Int) := toI_ge c_19 (nI_toInt (by omega)) (nI_toInt (by omega))
        refine lv_iload hx hb dX12_sameText_61 (lv_at hl 4 rfl) ?_
        refine W.widen (k := 0) (n := 0) (by decide +kernel) (by decide +kernel) ?_
        exact W.zret (v := zw) hx hb hr (by rcases hzw with h9 | h9; (rw [h9.1]; rfl); (rw [h9.1]; rfl)) (fun t9_ ht hW => ⟨⟨zw, (), rfl, by (try dsimp only); (rcases hzw with h9 | h9); (exact Or.inl h9); (exact Or.inr ⟨h9.1, h9.2.1, fun q hq => h9.2.2 q (by omega)⟩), by rw [ht]; exact hP, hD⟩, hS.F ht⟩) hS.2.2 dX12_sameText_63
      · have t_19 : ¬ ((k5 : Nat) : Int) ≥ ((xn : Nat) : Int) := toI_nge c_19 (nI_toInt (by omega)) (nI_toInt (by omega))
        refine lv_iload hx hb dX12_sameText_22 (lv_at hl 4 rfl) ?_
        refine lv_if_eq (tgt := 61) hx hb dX12_sameText_24 (by decide) (fun c_24 => ?_) (fun c_24 => ?_)
        · have t_24 : (zw).toInt = 0 := toI_eq c_24 rfl (by decide)
          refine lv_iload hx hb dX12_sameText_61 (lv_at hl 4 rfl) ?_
          refine W.widen (k := 0) (n := 0) (by decide +kernel) (by decide +kernel) ?_
          exact W.zret (v := zw) hx hb hr (by rcases hzw with h9 | h9; (rw [h9.1]; rfl); (rw [h9.1]; rfl)) (fun t9_ ht hW => ⟨⟨zw, (), rfl, by (try dsimp only); (rcases hzw with h9 | h9); (exact Or.inl h9); (exact absurd (h9.1.symm.trans c_24) (by decide)), by rw [ht]; exact hP, hD⟩, hS.F ht⟩) hS.2.2 dX12_sameText_63
        · have t_24 : ¬ (zw).toInt = 0 := toI_neq c_24 rfl (by decide)
          have hm9 := (hzw.resolve_left (fun h => c_24 h.1)).2
          refine lv_aload_n hx hb dX12_sameText_27 rfl (lv_at hl 0 rfl) ?_
          refine va_get (D := (dC, dI)) (ci := 12) (v := .ref (a 9)) (C := RX12) (T := TX12) (N := 163) (fs := fM (vS a vi vj)) hx hb hts iwsRsameTextf_in12 hown hK hP 0 rfl rfl 15 (by decide) (hts _ hm_r_X12_sameTextf_0) (fun _ h9 => h9) rfl dX12_sameText_28 ?_
          refine lv_iload_n hx hb dX12_sameText_31 rfl (lv_at hl 1 rfl) ?_
          refine lv_iload hx hb dX12_sameText_32 (lv_at hl 5 rfl) ?_
          refine lv_iadd hx hb dX12_sameText_34 ?_
          refine lv_topi (fun y1 hy1 => ?_)
          obtain rfl : (nI (xa + k5)) = y1 := (hy1.trans (nI_add xa k5)).symm
          refine va_bald (cA := k 9) (n := 4000) (f := (vF 9)) hx hb hK hP 10 9 (WR_get 9 (by decide)) (TR_get 9 (by decide)) (vp_in_nI (show (xa + k5) < 4000 by omega) (by omega)) dX12_sameText_35 ?_
          refine lv_topi (fun y2 hy2 => ?_)
          obtain rfl : ((vF 9) (xa + k5)) = y2 := (hy2.trans (by rw [nI_clamp (by omega)])).symm
          have hm8 := hm9.1
          refine lv_aload_n hx hb dX12_sameText_36 rfl (lv_at hl 0 rfl) ?_
          refine va_get (D := (dC, dI)) (ci := 12) (v := .ref (a 9)) (C := RX12) (T := TX12) (N := 163) (fs := fM (vS a vi vj)) hx hb hts iwsRsameTextf_in12 hown hK hP 0 rfl rfl 15 (by decide) (hts _ hm_r_X12_sameTextf_0) (fun _ h9 => h9) rfl dX12_sameText_37 ?_
          refine lv_iload_n hx hb dX12_sameText_40 rfl (lv_at hl 3 rfl) ?_
          refine lv_iload hx hb dX12_sameText_41 (lv_at hl 5 rfl) ?_
          refine lv_iadd hx hb dX12_sameText_43 ?_
          refine lv_topi (fun y3 hy3 => ?_)
          obtain rfl : (nI (xb + k5)) = y3 := (hy3.trans (nI_add xb k5)).symm
          refine va_bald (cA := k 9) (n := 4000) (f := (vF 9)) hx hb hK hP 10 9 (WR_get 9 (by decide)) (TR_get 9 (by decide)) (vp_in_nI (show (xb + k5) < 4000 by omega) (by omega)) dX12_sameText_44 ?_
          refine lv_topi (fun y4 hy4 => ?_)
          obtain rfl : ((vF 9) (xb + k5)) = y4 := (hy4.trans (by rw [nI_clamp (by omega)])).symm
          refine lv_icmp_ne (tgt := 52) hx hb dX12_sameText_45 (by decide) (fun c_45 => ?_) (fun c_45 => ?_)
          · have t_45 : (((vF 9) (xa + k5))).toInt ≠ (((vF 9) (xb + k5))).toInt := toI_ne c_45 rfl rfl
            refine lv_iconst (v := 0) hx hb dX12_sameText_52 (by decide) ?_
            refine lv_istore hx hb dX12_sameText_53 hl (by decide) rfl (fun ls (hl : lv_has ls _ ([(5, .int 0), (0, .ref h0), (1, .int (nI xa)), (2, .int (nI xn)), (3, .int (nI xb)), (6, .int (nI k5))])) => ?_)
            refine lv_iinc (v := (nI (k5 + 1))) hx hb dX12_sameText_55 hl (k := 5) rfl (nI_add k5 1) (by decide) rfl (fun ls (hl : lv_has ls _ ([(6, .int (nI (k5 + 1))), (5, .int 0), (0, .ref h0), (1, .int (nI xa)), (2, .int (nI xn)), (3, .int (nI xb))])) => ?_)
            refine lv_goto (tgt := 16) hx hb dX12_sameText_58 (by decide) ?_
            have hl : lv_has _ _ ([(0, .ref h0), (1, .int (nI xa)), (2, .int (nI xn)), (3, .int (nI xb)), (5, .int 0), (6, .int (nI (k5 + 1)))]) := lv_sub hl [2, 3, 4, 5, 1, 0] rfl
            exact ih16 (k5 + 1) 0 _ _ _ (by omega) (Or.inl ⟨rfl, fun h9 => c_45 (h9.2 k5 (by omega))⟩) (by omega) hP hD hS hl
          · have t_45 : (((vF 9) (xa + k5))).toInt = (((vF 9) (xb + k5))).toInt := toI_nne c_45 rfl rfl
            refine lv_iconst (v := 1) hx hb dX12_sameText_48 (by decide) ?_
            refine lv_goto (tgt := 53) hx hb dX12_sameText_49 (by decide) ?_
            refine lv_istore hx hb dX12_sameText_53 hl (by decide) rfl (fun ls (hl : lv_has ls _ ([(5, .int 1), (0, .ref h0), (1, .int (nI xa)), (2, .int (nI xn)), (3, .int (nI xb)), (6, .int (nI k5))])) => ?_)
            refine lv_iinc (v := (nI (k5 + 1))) hx hb dX12_sameText_55 hl (k := 5) rfl (nI_add k5 1) (by decide) rfl (fun ls (hl : lv_has ls _ ([(6, .int (nI (k5 + 1))), (5, .int 1), (0, .ref h0), (1, .int (nI xa)), (2, .int (nI xn)), (3, .int (nI xb))])) => ?_)
            refine lv_goto (tgt := 16) hx hb dX12_sameText_58 (by decide) ?_
            have hl : lv_has _ _ ([(0, .ref h0), (1, .int (nI xa)), (2, .int (nI xn)), (3, .int (nI xb)), (5, .int 1), (6, .int (nI (k5 + 1)))]) := lv_sub hl [2, 3, 4, 5, 1, 0] rfl
            exact ih16 (k5 + 1) 1 _ _ _ (by omega) (Or.inr ⟨rfl, hm9.1, fun q hq => by by_cases e9 : q = k5; (rw [e9]; exact c_45); (exact hm9.2 q (by omega))⟩) (by omega) hP hD hS hl
def wsRdeclaredf : List Cond := .code yX12_declared cX12_declared 2 (some .int) :: ([.fieldLink RX12 533 "OptimaWorksModel" "names" "I", .fieldLink RX12 53 "OptimaWorksModel" "nameFrom" "[I", .fieldLink RX12 56 "OptimaWorksModel" "nameLong" "[I", .fieldLink RX12 488 "OptimaWorksModel" "from" "I", .fieldLink RX12 485 "OptimaWorksModel" "at0" "I"] ++ wsX120 ++ (wsV RX12 536 RX12 yX12_sameText wsRsameTextf))
theorem iwsRdeclaredf_in12 : ∀ w ∈ wsX120, w ∈ wsRdeclaredf := fun _ h => List.mem_cons_of_mem _ (List.mem_append_left _ (List.mem_append_right _ h))
theorem gwsRdeclaredf_0 : GoodIn wsRdeclaredf (wsV RX12 536 RX12 yX12_sameText wsRsameTextf) := goodIn_sub (fun _ h => List.mem_cons_of_mem _ (List.mem_append_right _ h)) (gdV (by decide +kernel) gdwsRsameTextf)
theorem gdwsRdeclaredf : wsRdeclaredf.all goodWord = true := gdC rfl (gdA (gdA (by decide +kernel : ([.fieldLink RX12 533 "OptimaWorksModel" "names" "I", .fieldLink RX12 53 "OptimaWorksModel" "nameFrom" "[I", .fieldLink RX12 56 "OptimaWorksModel" "nameLong" "[I", .fieldLink RX12 488 "OptimaWorksModel" "from" "I", .fieldLink RX12 485 "OptimaWorksModel" "at0" "I"] : List Cond).all goodWord = true) gdwsX120) (gdV (by decide +kernel) gdwsRsameTextf))
theorem hm_r_X12_declaredf_0 : (.fieldLink RX12 488 "OptimaWorksModel" "from" "I" : Cond) ∈ wsRdeclaredf := by decide +kernel
set_option maxHeartbeats 4000000 in
set_option maxRecDepth 100000 in
/-- declared(), told -/
theorem r_X12_declaredf (l : Launch) (dC : Nat → ClassId) (dI : Nat → Nat → Nat) (a : Nat → Nat) (k : Nat → ClassId) (h0 : Nat) (vi : Nat → Int32) (vj : Nat → Int64) (vF : Nat → Nat → Int32) (vG : Nat → Nat → Int64) (an : Nat) (fn : Nat) (nm : Nat) (ha0 : vi 17 = nI an) (hfr : vi 19 = nI fn) (hfa : fn ≤ an) (han : an ≤ 4000) (hnm : vi 25 = nI nm) (hnm9 : nm ≤ 44) (hno : NmO (vF 11) (vF 12) nm) (sz : Nat) : Met l yX12_declared wsRdeclaredf ({ frames := 1, cells := 0, slots := 0, locals := 26 }) (va_Pc [.ref h0] (fun U => U.heap.size = sz ∧ va_P (dC, dI) vwCl (WR a k h0 vi vj vF vG) U.heap ∧ va_K (dC, dI) vwCl (tX12 k) U ∧ va_D (fun _ => True) (WR a k h0 vi vj vF vG))) (va_Qi (fun (r : Int32) (u : Nat) => (r = (-1) ∧ (∀ k, k < nm → ¬ SmW (vF 9) (vF 11) (vF 12) fn an k)) ∨ (r = (nI u) ∧ (u < nm) ∧ (SmW (vF 9) (vF 11) (vF 12) fn an u) ∧ (∀ k, k < u → ¬ SmW (vF 9) (vF 11) (vF 12) fn an k))) (fun (u : Nat) t => va_P (dC, dI) vwCl (WR a k h0 vi vj vF vG) t.heap ∧ va_D (va_A (WR a k h0 vi vj vF vG) sz) (WR a k h0 vi vj vF vG)) (va_A (WR a k h0 vi vj vF vG) sz)) 0 0 (va_A (WR a k h0 vi vj vF vG) sz) := by
  refine Met.ofW (cc := cX12_declared) (maxL := 2) (ret := (some .int)) (by decide) rfl ?_
  intro p e s m args below meth c s₁ B hml hv
  obtain ⟨rfl, hsz, hP, hK, hD0⟩ := hv
  have hx := B.exec
  have hb := B.bytes
  have hr := B.returns
  have hts := atoms_spec (ws := wsRdeclaredf) B.pre
  have hown : s.vm.findClass RX12 = some m.cls := findClass_of_methodNamed B.named
  have hlocks := B.notSynchronized
  subst hsz
  have hD := hD0.self (sz := s.heap.size)
  generalize hAe : va_A (WR a k h0 vi vj vF vG) s.heap.size = A at hD ⊢
  have hA : ∀ q : Nat, s.heap.size ≤ q → A q := fun q h => by rw [← hAe]; exact Or.inr h
  have hS : va_S A s.heap s.heap [] := va_S.rf
  have hl := lv_entry ([.ref h0]) (n := 2) (Nat.le_of_ble_eq_true rfl)
  rw [lg_entry_eq]
  generalize (lg_sl ([.ref h0]) ++ List.replicate (2 - (lg_sl ([.ref h0])).length) Slot.unset).toArray = ls at hl ⊢
  have hl : lv_has ls 2 [(0, .ref h0)] := hl
  refine lv_iconst (v := 0) hx hb dX12_declared_0 (by decide) ?_
  refine lv_istore_n hx hb dX12_declared_1 rfl hl (by decide) rfl (fun ls (hl : lv_has ls _ ([(1, .int 0), (0, .ref h0)])) => ?_)
  have hl : lv_has _ _ ([(0, .ref h0), (1, .int (nI 0))]) := lv_sub hl [1, 0] rfl
  refine (fun (loop : ∀ (n9 : Nat) (k5 : Nat) (H : Heap) (locs : List Loc) (ls : Array Slot), (k5 ≤ nm) → (∀ k, k < k5 → ¬ SmW (vF 9) (vF 11) (vF 12) fn an k) →  (nm < k5 + n9) → va_P (dC, dI) vwCl (WR a k h0 vi vj vF vG) H → va_D A (WR a k h0 vi vj vF vG) → va_S A s.heap H locs → lv_has ls 2 [(0, .ref h0), (1, .int (nI k5))] → W p l e _ s m _ below meth c H locs 0 0 _ (F0 m 2 ls [])) => loop (nm + 1) 0 _ _ _ (by omega) (fun k hk => absurd hk (by omega)) (by omega) hP hD hS hl) ?_
  intro n9
  induction n9 with
  | zero => intro k5 H locs ls hk5 hnk hf9; exact False.elim (by omega)
  | succ n9 ih2 =>
    intro k5 H locs ls hk5 hnk hf2 hP hD hS hl
    refine lv_iload_n hx hb dX12_declared_2 rfl (lv_at hl 1 rfl) ?_
    refine lv_aload_n hx hb dX12_declared_3 rfl (lv_at hl 0 rfl) ?_
    refine va_get (D := (dC, dI)) (ci := 12) (v := .int (vi 25)) (C := RX12) (T := TX12) (N := 163) (fs := fM (vS a vi vj)) hx hb hts iwsRdeclaredf_in12 hown hK hP 0 rfl rfl 25 (by decide) (hts (.fieldLink RX12 533 "OptimaWorksModel" "names" "I") (by decide +kernel)) (fun _ h9 => h9) rfl dX12_declared_4 ?_
    refine lv_topi (fun y1 hy1 => ?_)
    obtain rfl : (nI nm) = y1 := (hy1.trans (hnm)).symm
    refine lv_icmp_ge (tgt := 50) hx hb dX12_declared_7 (by decide) (fun c_7 => ?_) (fun c_7 => ?_)
    · have t_7 : ((k5 : Nat) : Int) ≥ ((nm : Nat) : Int) := toI_ge c_7 (nI_toInt (by omega)) (nI_toInt (by omega))
      refine lv_iconst (v := (-1)) hx hb dX12_declared_50 (by decide) ?_
      refine W.widen (k := 0) (n := 0) (by decide +kernel) (by decide +kernel) ?_
      exact W.iret (v := (-1)) hx hb hr (fun t9_ ht hW => ⟨⟨(-1), 0, rfl, by (try dsimp only); exact Or.inl ⟨rfl, fun k hk => hnk k (by omega)⟩, by rw [ht]; exact hP, hD⟩, hS.F ht⟩) hS.2.2 dX12_declared_51
    · have t_7 : ¬ ((k5 : Nat) : Int) ≥ ((nm : Nat) : Int) := toI_nge c_7 (nI_toInt (by omega)) (nI_toInt (by omega))
      obtain ⟨x9, y9, ex, ey, exy⟩ := hno k5 (by omega)
      refine lv_aload_n hx hb dX12_declared_10 rfl (lv_at hl 0 rfl) ?_
      refine lv_aload_n hx hb dX12_declared_11 rfl (lv_at hl 0 rfl) ?_
      refine va_get (D := (dC, dI)) (ci := 12) (v := .ref (a 11)) (C := RX12) (T := TX12) (N := 163) (fs := fM (vS a vi vj)) hx hb hts iwsRdeclaredf_in12 hown hK hP 0 rfl rfl 27 (by decide) (hts (.fieldLink RX12 53 "OptimaWorksModel" "nameFrom" "[I") (by decide +kernel)) (fun _ h9 => h9) rfl dX12_declared_12 ?_
      refine lv_iload_n hx hb dX12_declared_15 rfl (lv_at hl 1 rfl) ?_
      refine va_iald (cA := k 11) (n := 44) (f := (vF 11)) hx hb hK hP 12 11 (WR_get 11 (by decide)) (TR_get 11 (by decide)) (vp_in_nI (show k5 < 44 by omega) (by omega)) dX12_declared_16 ?_
      refine lv_topi (fun y2 hy2 => ?_)
      obtain rfl : ((vF 11) k5) = y2 := (hy2.trans (by rw [nI_clamp (by omega)])).symm
      refine lv_topi (fun y3 hy3 => ?_)
      obtain rfl : (nI x9) = y3 := (hy3.trans (ex)).symm
      refine lv_aload_n hx hb dX12_declared_17 rfl (lv_at hl 0 rfl) ?_
      refine va_get (D := (dC, dI)) (ci := 12) (v := .ref (a 12)) (C := RX12) (T := TX12) (N := 163) (fs := fM (vS a vi vj)) hx hb hts iwsRdeclaredf_in12 hown hK hP 0 rfl rfl 28 (by decide) (hts (.fieldLink RX12 56 "OptimaWorksModel" "nameLong" "[I") (by decide +kernel)) (fun _ h9 => h9) rfl dX12_declared_18 ?_
      refine lv_iload_n hx hb dX12_declared_21 rfl (lv_at hl 1 rfl) ?_
      refine va_iald (cA := k 12) (n := 44) (f := (vF 12)) hx hb hK hP 13 12 (WR_get 12 (by decide)) (TR_get 12 (by decide)) (vp_in_nI (show k5 < 44 by omega) (by omega)) dX12_declared_22 ?_
      refine lv_topi (fun y4 hy4 => ?_)
      obtain rfl : ((vF 12) k5) = y4 := (hy4.trans (by rw [nI_clamp (by omega)])).symm
      refine lv_topi (fun y5 hy5 => ?_)
      obtain rfl : (nI y9) = y5 := (hy5.trans (ey)).symm
      refine lv_aload_n hx hb dX12_declared_23 rfl (lv_at hl 0 rfl) ?_
      refine va_get (D := (dC, dI)) (ci := 12) (v := .int (vi 19)) (C := RX12) (T := TX12) (N := 163) (fs := fM (vS a vi vj)) hx hb hts iwsRdeclaredf_in12 hown hK hP 0 rfl rfl 19 (by decide) (hts _ hm_r_X12_declaredf_0) (fun _ h9 => h9) rfl dX12_declared_24 ?_
      refine lv_topi (fun y6 hy6 => ?_)
      obtain rfl : (nI fn) = y6 := (hy6.trans (hfr)).symm
      refine lv_aload_n hx hb dX12_declared_27 rfl (lv_at hl 0 rfl) ?_
      refine va_get (D := (dC, dI)) (ci := 12) (v := .int (vi 17)) (C := RX12) (T := TX12) (N := 163) (fs := fM (vS a vi vj)) hx hb hts iwsRdeclaredf_in12 hown hK hP 0 rfl rfl 17 (by decide) (hts (.fieldLink RX12 485 "OptimaWorksModel" "at0" "I") (by decide +kernel)) (fun _ h9 => h9) rfl dX12_declared_28 ?_
      refine lv_topi (fun y7 hy7 => ?_)
      obtain rfl : (nI an) = y7 := (hy7.trans (ha0)).symm
      refine lv_aload_n hx hb dX12_declared_31 rfl (lv_at hl 0 rfl) ?_
      refine va_get (D := (dC, dI)) (ci := 12) (v := .int (vi 19)) (C := RX12) (T := TX12) (N := 163) (fs := fM (vS a vi vj)) hx hb hts iwsRdeclaredf_in12 hown hK hP 0 rfl rfl 19 (by decide) (hts _ hm_r_X12_declaredf_0) (fun _ h9 => h9) rfl dX12_declared_32 ?_
      refine lv_topi (fun y8 hy8 => ?_)
      obtain rfl : (nI fn) = y8 := (hy8.trans (hfr)).symm
      refine lv_isub hx hb dX12_declared_35 ?_
      refine lv_topi (fun y9 hy9 => ?_)
      obtain rfl : (nI (an - fn)) = y9 := (hy9.trans (pk_sub (a := an) (b := fn) (by omega))).symm
      have hFc := allFree hD hS hA
      refine va_calli (va_runV (As := [.int (nI x9), .int (nI y9), .int (nI fn), .int (nI (an - fn))]) (rest := []) ⟨hx, hb, hml, hown, hts⟩ (r_X12_sameTextf l dC dI a k h0 vi vj vF vG x9 y9 fn (an - fn) (by first | with_reducible assumption | decide | omega | rfl | assumption) (by omega) H.size) (cwV 4 hts gwsRdeclaredf_0 rfl rfl rfl hd_yX12_sameText_RX12 (by decide +kernel)) (fz_pre (va_recv hK hP (ci := 12) (q0 := 0) rfl rfl) hP hK hD) rfl rfl hl.1 rfl (lv_room (Nat.le_of_ble_eq_true rfl)) dX12_declared_36 (by decide +kernel)) hS (fun q _ h => hFc q h) hFc (fun r36 u t9_ H locs ht hvm hw9 hB9 hz1 hk1 hS => ?_)
      have hP : va_P (dC, dI) vwCl (WR a k h0 vi vj vF vG) H := fz_P ht hB9.1
      have hD := fz_sd hP (hB9.2.weaken (fun _ q _ h => hFc q.1 h)) rfl
      have f36_0 := hw9
      try dsimp only at f36_0
      have f36_0 : ((r36) = 0 ∧ ¬ SmT (vF 9) x9 y9 fn (an - fn)) ∨ ((r36) = 1 ∧ SmT (vF 9) x9 y9 fn (an - fn)) := f36_0
      refine lv_if_eq (tgt := 44) hx hb dX12_declared_39 (by decide) (fun c_39 => ?_) (fun c_39 => ?_)
      · have t_39 : (r36).toInt = 0 := toI_eq c_39 rfl (by decide)
        refine lv_iinc (v := (nI (k5 + 1))) hx hb dX12_declared_44 hl (k := 1) rfl (nI_add k5 1) (by decide) rfl (fun ls (hl : lv_has ls _ ([(1, .int (nI (k5 + 1))), (0, .ref h0)])) => ?_)
        refine lv_goto (tgt := 2) hx hb dX12_declared_47 (by decide) ?_
        have hl : lv_has _ _ ([(0, .ref h0), (1, .int (nI (k5 + 1)))]) := lv_sub hl [1, 0] rfl
        exact ih2 (k5 + 1) _ _ _ (by omega) (fun k hk => by by_cases e9 : k = k5; (rw [e9]; exact SmW.no ex ey exy ((f36_0).resolve_right (fun h => absurd (h.1.symm.trans c_39) (by decide))).2); (exact hnk k (by omega))) (by omega) hP hD hS hl
      · have t_39 : ¬ (r36).toInt = 0 := toI_neq c_39 rfl (by decide)
        refine lv_iload_n hx hb dX12_declared_42 rfl (lv_at hl 1 rfl) ?_
        refine W.widen (k := 0) (n := 0) (by decide +kernel) (by decide +kernel) ?_
        exact W.iret (v := (nI k5)) hx hb hr (fun t9_ ht hW => ⟨⟨(nI k5), k5, rfl, by (try dsimp only); exact Or.inr ⟨rfl, by omega, ⟨x9, y9, ex, ey, exy, ((f36_0).resolve_left (fun h => c_39 h.1)).2⟩, hnk⟩, by rw [ht]; exact hP, hD⟩, hS.F ht⟩) hS.2.2 dX12_declared_43
def wsRbinderf : List Cond := .code yX12_binder cX12_binder 2 (some .int) :: ([.fieldLink RX12 540 "OptimaWorksModel" "binders" "I", .fieldLink RX12 62 "OptimaWorksModel" "binderFrom" "[I", .fieldLink RX12 65 "OptimaWorksModel" "binderLong" "[I", .fieldLink RX12 488 "OptimaWorksModel" "from" "I", .fieldLink RX12 485 "OptimaWorksModel" "at0" "I"] ++ wsX120 ++ (wsV RX12 536 RX12 yX12_sameText wsRsameTextf))
theorem iwsRbinderf_in12 : ∀ w ∈ wsX120, w ∈ wsRbinderf := fun _ h => List.mem_cons_of_mem _ (List.mem_append_left _ (List.mem_append_right _ h))
theorem gwsRbinderf_0 : GoodIn wsRbinderf (wsV RX12 536 RX12 yX12_sameText wsRsameTextf) := goodIn_sub (fun _ h => List.mem_cons_of_mem _ (List.mem_append_right _ h)) (gdV (by decide +kernel) gdwsRsameTextf)
theorem gdwsRbinderf : wsRbinderf.all goodWord = true := gdC rfl (gdA (gdA (by decide +kernel : ([.fieldLink RX12 540 "OptimaWorksModel" "binders" "I", .fieldLink RX12 62 "OptimaWorksModel" "binderFrom" "[I", .fieldLink RX12 65 "OptimaWorksModel" "binderLong" "[I", .fieldLink RX12 488 "OptimaWorksModel" "from" "I", .fieldLink RX12 485 "OptimaWorksModel" "at0" "I"] : List Cond).all goodWord = true) gdwsX120) (gdV (by decide +kernel) gdwsRsameTextf))
theorem hm_r_X12_binderf_0 : (.fieldLink RX12 488 "OptimaWorksModel" "from" "I" : Cond) ∈ wsRbinderf := by decide +kernel
set_option maxHeartbeats 4000000 in
set_option maxRecDepth 100000 in
/-- binder(), told -/
theorem r_X12_binderf (l : Launch) (dC : Nat → ClassId) (dI : Nat → Nat → Nat) (a : Nat → Nat) (k : Nat → ClassId) (h0 : Nat) (vi : Nat → Int32) (vj : Nat → Int64) (vF : Nat → Nat → Int32) (vG : Nat → Nat → Int64) (an : Nat) (fn : Nat) (nm : Nat) (ha0 : vi 17 = nI an) (hfr : vi 19 = nI fn) (hfa : fn ≤ an) (han : an ≤ 4000) (hnm : vi 30 = nI nm) (hnm9 : nm ≤ 60) (hno : NmO (vF 14) (vF 15) nm) (sz : Nat) : Met l yX12_binder wsRbinderf ({ frames := 1, cells := 0, slots := 0, locals := 26 }) (va_Pc [.ref h0] (fun U => U.heap.size = sz ∧ va_P (dC, dI) vwCl (WR a k h0 vi vj vF vG) U.heap ∧ va_K (dC, dI) vwCl (tX12 k) U ∧ va_D (fun _ => True) (WR a k h0 vi vj vF vG))) (va_Qi (fun (r : Int32) (u : Nat) => (r = (-1) ∧ (∀ k, k < nm → ¬ SmW (vF 9) (vF 14) (vF 15) fn an k)) ∨ (r = (nI u) ∧ (u < nm) ∧ (SmW (vF 9) (vF 14) (vF 15) fn an u))) (fun (u : Nat) t => va_P (dC, dI) vwCl (WR a k h0 vi vj vF vG) t.heap ∧ va_D (va_A (WR a k h0 vi vj vF vG) sz) (WR a k h0 vi vj vF vG)) (va_A (WR a k h0 vi vj vF vG) sz)) 0 0 (va_A (WR a k h0 vi vj vF vG) sz) := by
  refine Met.ofW (cc := cX12_binder) (maxL := 2) (ret := (some .int)) (by decide) rfl ?_
  intro p e s m args below meth c s₁ B hml hv
  obtain ⟨rfl, hsz, hP, hK, hD0⟩ := hv
  have hx := B.exec
  have hb := B.bytes
  have hr := B.returns
  have hts := atoms_spec (ws := wsRbinderf) B.pre
  have hown : s.vm.findClass RX12 = some m.cls := findClass_of_methodNamed B.named
  have hlocks := B.notSynchronized
  subst hsz
  have hD := hD0.self (sz := s.heap.size)
  generalize hAe : va_A (WR a k h0 vi vj vF vG) s.heap.size = A at hD ⊢
  have hA : ∀ q : Nat, s.heap.size ≤ q → A q := fun q h => by rw [← hAe]; exact Or.inr h
  have hS : va_S A s.heap s.heap [] := va_S.rf
  have hl := lv_entry ([.ref h0]) (n := 2) (Nat.le_of_ble_eq_true rfl)
  rw [lg_entry_eq]
  generalize (lg_sl ([.ref h0]) ++ List.replicate (2 - (lg_sl ([.ref h0])).length) Slot.unset).toArray = ls at hl ⊢
  have hl : lv_has ls 2 [(0, .ref h0)] := hl
  refine lv_aload_n hx hb dX12_binder_0 rfl (lv_at hl 0 rfl) ?_
  refine va_get (D := (dC, dI)) (ci := 12) (v := .int (vi 30)) (C := RX12) (T := TX12) (N := 163) (fs := fM (vS a vi vj)) hx hb hts iwsRbinderf_in12 hown hK hP 0 rfl rfl 30 (by decide) (hts (.fieldLink RX12 540 "OptimaWorksModel" "binders" "I") (by decide +kernel)) (fun _ h9 => h9) rfl dX12_binder_1 ?_
  refine lv_topi (fun y1 hy1 => ?_)
  obtain rfl : (nI nm) = y1 := (hy1.trans (hnm)).symm
  refine lv_iconst (v := 1) hx hb dX12_binder_4 (by decide) ?_
  refine lv_isub hx hb dX12_binder_5 ?_
  refine lv_istore_n hx hb dX12_binder_6 rfl hl (by decide) rfl (fun ls (hl : lv_has ls _ ([(1, .int ((nI nm) - 1)), (0, .ref h0)])) => ?_)
  have hl : lv_has _ _ ([(0, .ref h0), (1, .int ((nI nm) - 1))]) := lv_sub hl [1, 0] rfl
  refine (fun (loop : ∀ (n9 : Nat) (kq : Int32) (kk1 : Nat) (H : Heap) (locs : List Loc) (ls : Array Slot), ((kq).toInt = (kk1 : Int) - 1) → (kk1 ≤ nm) → (∀ k, kk1 ≤ k → k < nm → ¬ SmW (vF 9) (vF 14) (vF 15) fn an k) →  (kk1 < n9) → va_P (dC, dI) vwCl (WR a k h0 vi vj vF vG) H → va_D A (WR a k h0 vi vj vF vG) → va_S A s.heap H locs → lv_has ls 2 [(0, .ref h0), (1, .int kq)] → W p l e _ s m _ below meth c H locs 0 0 _ (F0 m 7 ls [])) => loop (nm + 1) ((nI nm) - 1) nm _ _ _ (by exact pk_sub_toInt (a := nm) (b := 1) (by omega) (by omega)) (by omega) (fun k hk hk2 => absurd hk (by omega)) (by omega) hP hD hS hl) ?_
  intro n9
  induction n9 with
  | zero => intro kq kk1 H locs ls hkq hkn hnk hf9; exact False.elim (by omega)
  | succ n9 ih7 =>
    intro kq kk1 H locs ls hkq hkn hnk hf7 hP hD hS hl
    refine lv_iload_n hx hb dX12_binder_7 rfl (lv_at hl 1 rfl) ?_
    refine lv_if_lt (tgt := 51) hx hb dX12_binder_8 (by decide) (fun c_8 => ?_) (fun c_8 => ?_)
    · have t_8 : (kq).toInt < 0 := toI_lt c_8 rfl (by decide)
      refine lv_iconst (v := (-1)) hx hb dX12_binder_51 (by decide) ?_
      refine W.widen (k := 0) (n := 0) (by decide +kernel) (by decide +kernel) ?_
      exact W.iret (v := (-1)) hx hb hr (fun t9_ ht hW => ⟨⟨(-1), 0, rfl, by (try dsimp only); exact Or.inl ⟨rfl, fun k hk => hnk k (by omega) hk⟩, by rw [ht]; exact hP, hD⟩, hS.F ht⟩) hS.2.2 dX12_binder_52
    · have t_8 : ¬ (kq).toInt < 0 := toI_nlt c_8 rfl (by decide)
      obtain ⟨kk, h_kk, rfl⟩ := of_toInt (x := kq) (k := 60) (by omega) (by omega)
      have e_kk : (nI kk).toInt = (kk : Int) := nI_toInt (by omega)
      obtain ⟨x9, y9, ex, ey, exy⟩ := hno kk (by omega)
      refine lv_aload_n hx hb dX12_binder_11 rfl (lv_at hl 0 rfl) ?_
      refine lv_aload_n hx hb dX12_binder_12 rfl (lv_at hl 0 rfl) ?_
      refine va_get (D := (dC, dI)) (ci := 12) (v := .ref (a 14)) (C := RX12) (T := TX12) (N := 163) (fs := fM (vS a vi vj)) hx hb hts iwsRbinderf_in12 hown hK hP 0 rfl rfl 31 (by decide) (hts (.fieldLink RX12 62 "OptimaWorksModel" "binderFrom" "[I") (by decide +kernel)) (fun _ h9 => h9) rfl dX12_binder_13 ?_
      refine lv_iload_n hx hb dX12_binder_16 rfl (lv_at hl 1 rfl) ?_
      refine va_iald (cA := k 14) (n := 60) (f := (vF 14)) hx hb hK hP 15 14 (WR_get 14 (by decide)) (TR_get 14 (by decide)) (vp_in_nI (show kk < 60 by omega) (by omega)) dX12_binder_17 ?_
      refine lv_topi (fun y2 hy2 => ?_)
      obtain rfl : ((vF 14) kk) = y2 := (hy2.trans (by rw [nI_clamp (by omega)])).symm
      refine lv_topi (fun y3 hy3 => ?_)
      obtain rfl : (nI x9) = y3 := (hy3.trans (ex)).symm
      refine lv_aload_n hx hb dX12_binder_18 rfl (lv_at hl 0 rfl) ?_
      refine va_get (D := (dC, dI)) (ci := 12) (v := .ref (a 15)) (C := RX12) (T := TX12) (N := 163) (fs := fM (vS a vi vj)) hx hb hts iwsRbinderf_in12 hown hK hP 0 rfl rfl 32 (by decide) (hts (.fieldLink RX12 65 "OptimaWorksModel" "binderLong" "[I") (by decide +kernel)) (fun _ h9 => h9) rfl dX12_binder_19 ?_
      refine lv_iload_n hx hb dX12_binder_22 rfl (lv_at hl 1 rfl) ?_
      refine va_iald (cA := k 15) (n := 60) (f := (vF 15)) hx hb hK hP 16 15 (WR_get 15 (by decide)) (TR_get 15 (by decide)) (vp_in_nI (show kk < 60 by omega) (by omega)) dX12_binder_23 ?_
      refine lv_topi (fun y4 hy4 => ?_)
      obtain rfl : ((vF 15) kk) = y4 := (hy4.trans (by rw [nI_clamp (by omega)])).symm
      refine lv_topi (fun y5 hy5 => ?_)
      obtain rfl : (nI y9) = y5 := (hy5.trans (ey)).symm
      refine lv_aload_n hx hb dX12_binder_24 rfl (lv_at hl 0 rfl) ?_
      refine va_get (D := (dC, dI)) (ci := 12) (v := .int (vi 19)) (C := RX12) (T := TX12) (N := 163) (fs := fM (vS a vi vj)) hx hb hts iwsRbinderf_in12 hown hK hP 0 rfl rfl 19 (by decide) (hts _ hm_r_X12_binderf_0) (fun _ h9 => h9) rfl dX12_binder_25 ?_
      refine lv_topi (fun y6 hy6 => ?_)
      obtain rfl : (nI fn) = y6 := (hy6.trans (hfr)).symm
      refine lv_aload_n hx hb dX12_binder_28 rfl (lv_at hl 0 rfl) ?_
      refine va_get (D := (dC, dI)) (ci := 12) (v := .int (vi 17)) (C := RX12) (T := TX12) (N := 163) (fs := fM (vS a vi vj)) hx hb hts iwsRbinderf_in12 hown hK hP 0 rfl rfl 17 (by decide) (hts (.fieldLink RX12 485 "OptimaWorksModel" "at0" "I") (by decide +kernel)) (fun _ h9 => h9) rfl dX12_binder_29 ?_
      refine lv_topi (fun y7 hy7 => ?_)
      obtain rfl : (nI an) = y7 := (hy7.trans (ha0)).symm
      refine lv_aload_n hx hb dX12_binder_32 rfl (lv_at hl 0 rfl) ?_
      refine va_get (D := (dC, dI)) (ci := 12) (v := .int (vi 19)) (C := RX12) (T := TX12) (N := 163) (fs := fM (vS a vi vj)) hx hb hts iwsRbinderf_in12 hown hK hP 0 rfl rfl 19 (by decide) (hts _ hm_r_X12_binderf_0) (fun _ h9 => h9) rfl dX12_binder_33 ?_
      refine lv_topi (fun y8 hy8 => ?_)
      obtain rfl : (nI fn) = y8 := (hy8.trans (hfr)).symm
      refine lv_isub hx hb dX12_binder_36 ?_
      refine lv_topi (fun y9 hy9 => ?_)
      obtain rfl : (nI (an - fn)) = y9 := (hy9.trans (pk_sub (a := an) (b := fn) (by omega))).symm
      have hFc := allFree hD hS hA
      refine va_calli (va_runV (As := [.int (nI x9), .int (nI y9), .int (nI fn), .int (nI (an - fn))]) (rest := []) ⟨hx, hb, hml, hown, hts⟩ (r_X12_sameTextf l dC dI a k h0 vi vj vF vG x9 y9 fn (an - fn) (by first | with_reducible assumption | decide | omega | rfl | assumption) (by omega) H.size) (cwV 4 hts gwsRbinderf_0 rfl rfl rfl hd_yX12_sameText_RX12 (by decide +kernel)) (fz_pre (va_recv hK hP (ci := 12) (q0 := 0) rfl rfl) hP hK hD) rfl rfl hl.1 rfl (lv_room (Nat.le_of_ble_eq_true rfl)) dX12_binder_37 (by decide +kernel)) hS (fun q _ h => hFc q h) hFc (fun r37 u t9_ H locs ht hvm hw9 hB9 hz1 hk1 hS => ?_)
      have hP : va_P (dC, dI) vwCl (WR a k h0 vi vj vF vG) H := fz_P ht hB9.1
      have hD := fz_sd hP (hB9.2.weaken (fun _ q _ h => hFc q.1 h)) rfl
      have f37_0 := hw9
      try dsimp only at f37_0
      have f37_0 : ((r37) = 0 ∧ ¬ SmT (vF 9) x9 y9 fn (an - fn)) ∨ ((r37) = 1 ∧ SmT (vF 9) x9 y9 fn (an - fn)) := f37_0
      refine lv_if_eq (tgt := 45) hx hb dX12_binder_40 (by decide) (fun c_40 => ?_) (fun c_40 => ?_)
      · have t_40 : (r37).toInt = 0 := toI_eq c_40 rfl (by decide)
        refine lv_iinc (v := ((nI kk) + (-1))) hx hb dX12_binder_45 hl (k := 1) rfl rfl (by decide) rfl (fun ls (hl : lv_has ls _ ([(1, .int ((nI kk) + (-1))), (0, .ref h0)])) => ?_)
        refine lv_goto (tgt := 7) hx hb dX12_binder_48 (by decide) ?_
        have hl : lv_has _ _ ([(0, .ref h0), (1, .int ((nI kk) + (-1)))]) := lv_sub hl [1, 0] rfl
        exact ih7 ((nI kk) + (-1)) (kk1 - 1) _ _ _ (by rw [m1T (by omega)]; omega) (by omega) (fun k hk hk2 => by by_cases e9 : k = kk; (rw [e9]; exact SmW.no ex ey exy ((f37_0).resolve_right (fun h => absurd (h.1.symm.trans c_40) (by decide))).2); (exact hnk k (by omega) hk2)) (by omega) hP hD hS hl
      · have t_40 : ¬ (r37).toInt = 0 := toI_neq c_40 rfl (by decide)
        refine lv_iload_n hx hb dX12_binder_43 rfl (lv_at hl 1 rfl) ?_
        refine W.widen (k := 0) (n := 0) (by decide +kernel) (by decide +kernel) ?_
        exact W.iret (v := (nI kk)) hx hb hr (fun t9_ ht hW => ⟨⟨(nI kk), kk, rfl, by (try dsimp only); exact Or.inr ⟨rfl, by omega, ⟨x9, y9, ex, ey, exy, ((f37_0).resolve_left (fun h => c_40 h.1)).2⟩⟩, by rw [ht]; exact hP, hD⟩, hS.F ht⟩) hS.2.2 dX12_binder_44
end
section
theorem hd_yX12_isNode_RX12 : yX12_isNode.cls = RX12 ∧ yX12_isNode.cls ≠ "java/lang/invoke/MethodHandle" ∧ yX12_isNode.cls ≠ "java/lang/invoke/VarHandle" ∧ (parseMethodDescriptor yX12_isNode.desc).map (fun d => d.parameters.length) = some 1 := by decide +kernel
theorem dX12_canBegin_0 : decode cX12_canBegin 0 = .ok (.aload_n 0, 1) := dk_42 (by decide +kernel)
theorem dX12_canBegin_1 : decode cX12_canBegin 1 = .ok (.getfield 494, 3) := dk_180 (by decide +kernel)
theorem dX12_canBegin_4 : decode cX12_canBegin 4 = .ok (.iconst 3, 1) := dk_6 (by decide +kernel)
theorem dX12_canBegin_5 : decode cX12_canBegin 5 = .ok (.if_icmp .eq 38, 3) := dk_159 (by decide +kernel)
theorem dX12_canBegin_8 : decode cX12_canBegin 8 = .ok (.aload_n 0, 1) := dk_42 (by decide +kernel)
theorem dX12_canBegin_9 : decode cX12_canBegin 9 = .ok (.getfield 494, 3) := dk_180 (by decide +kernel)
theorem dX12_canBegin_12 : decode cX12_canBegin 12 = .ok (.iconst 1, 1) := dk_4 (by decide +kernel)
theorem dX12_canBegin_13 : decode cX12_canBegin 13 = .ok (.if_icmp .eq 30, 3) := dk_159 (by decide +kernel)
theorem dX12_canBegin_16 : decode cX12_canBegin 16 = .ok (.aload_n 0, 1) := dk_42 (by decide +kernel)
theorem dX12_canBegin_17 : decode cX12_canBegin 17 = .ok (.bipush 45, 2) := dk_16 (by decide +kernel)
theorem dX12_canBegin_19 : decode cX12_canBegin 19 = .ok (.invokevirtual 521, 3) := dk_182 (by decide +kernel)
theorem dX12_canBegin_22 : decode cX12_canBegin 22 = .ok (.ifCond .ne 21, 3) := dk_154 (by decide +kernel)
theorem dX12_canBegin_25 : decode cX12_canBegin 25 = .ok (.aload_n 0, 1) := dk_42 (by decide +kernel)
theorem dX12_canBegin_26 : decode cX12_canBegin 26 = .ok (.bipush 40, 2) := dk_16 (by decide +kernel)
theorem dX12_canBegin_28 : decode cX12_canBegin 28 = .ok (.invokevirtual 521, 3) := dk_182 (by decide +kernel)
theorem dX12_canBegin_31 : decode cX12_canBegin 31 = .ok (.ifCond .ne 12, 3) := dk_154 (by decide +kernel)
theorem dX12_canBegin_34 : decode cX12_canBegin 34 = .ok (.aload_n 0, 1) := dk_42 (by decide +kernel)
theorem dX12_canBegin_35 : decode cX12_canBegin 35 = .ok (.bipush 12, 2) := dk_16 (by decide +kernel)
theorem dX12_canBegin_37 : decode cX12_canBegin 37 = .ok (.invokevirtual 530, 3) := dk_182 (by decide +kernel)
theorem dX12_canBegin_40 : decode cX12_canBegin 40 = .ok (.ifCond .eq 7, 3) := dk_153 (by decide +kernel)
theorem dX12_canBegin_43 : decode cX12_canBegin 43 = .ok (.iconst 1, 1) := dk_4 (by decide +kernel)
theorem dX12_canBegin_44 : decode cX12_canBegin 44 = .ok (.goto 4, 3) := dk_167 (by decide +kernel)
theorem dX12_canBegin_47 : decode cX12_canBegin 47 = .ok (.iconst 0, 1) := dk_3 (by decide +kernel)
theorem dX12_canBegin_48 : decode cX12_canBegin 48 = .ok (.istore_n 1, 1) := dk_60 (by decide +kernel)
theorem dX12_canBegin_49 : decode cX12_canBegin 49 = .ok (.iload_n 1, 1) := dk_27 (by decide +kernel)
theorem dX12_canBegin_50 : decode cX12_canBegin 50 = .ok (.ifCond .ne 10, 3) := dk_154 (by decide +kernel)
theorem dX12_canBegin_53 : decode cX12_canBegin 53 = .ok (.aload_n 0, 1) := dk_42 (by decide +kernel)
theorem dX12_canBegin_54 : decode cX12_canBegin 54 = .ok (.invokevirtual 527, 3) := dk_182 (by decide +kernel)
theorem dX12_canBegin_57 : decode cX12_canBegin 57 = .ok (.goto 39, 3) := dk_167 (by decide +kernel)
theorem dX12_canBegin_60 : decode cX12_canBegin 60 = .ok (.aload_n 0, 1) := dk_42 (by decide +kernel)
theorem dX12_canBegin_61 : decode cX12_canBegin 61 = .ok (.getfield 494, 3) := dk_180 (by decide +kernel)
theorem dX12_canBegin_64 : decode cX12_canBegin 64 = .ok (.iconst 1, 1) := dk_4 (by decide +kernel)
theorem dX12_canBegin_65 : decode cX12_canBegin 65 = .ok (.if_icmp .ne 31, 3) := dk_160 (by decide +kernel)
theorem dX12_canBegin_68 : decode cX12_canBegin 68 = .ok (.aload_n 0, 1) := dk_42 (by decide +kernel)
theorem dX12_canBegin_69 : decode cX12_canBegin 69 = .ok (.invokevirtual 558, 3) := dk_182 (by decide +kernel)
theorem dX12_canBegin_72 : decode cX12_canBegin 72 = .ok (.iconst (-1), 1) := dk_2 (by decide +kernel)
theorem dX12_canBegin_73 : decode cX12_canBegin 73 = .ok (.if_icmp .ne 23, 3) := dk_160 (by decide +kernel)
theorem dX12_canBegin_76 : decode cX12_canBegin 76 = .ok (.aload_n 0, 1) := dk_42 (by decide +kernel)
theorem dX12_canBegin_77 : decode cX12_canBegin 77 = .ok (.aload_n 0, 1) := dk_42 (by decide +kernel)
theorem dX12_canBegin_78 : decode cX12_canBegin 78 = .ok (.invokevirtual 555, 3) := dk_182 (by decide +kernel)
theorem dX12_canBegin_81 : decode cX12_canBegin 81 = .ok (.invokevirtual 567, 3) := dk_182 (by decide +kernel)
theorem dX12_canBegin_84 : decode cX12_canBegin 84 = .ok (.ifCond .ne 12, 3) := dk_154 (by decide +kernel)
theorem dX12_canBegin_87 : decode cX12_canBegin 87 = .ok (.aload_n 0, 1) := dk_42 (by decide +kernel)
theorem dX12_canBegin_88 : decode cX12_canBegin 88 = .ok (.iconst 3, 1) := dk_6 (by decide +kernel)
theorem dX12_canBegin_89 : decode cX12_canBegin 89 = .ok (.aload_n 0, 1) := dk_42 (by decide +kernel)
theorem dX12_canBegin_90 : decode cX12_canBegin 90 = .ok (.getfield 488, 3) := dk_180 (by decide +kernel)
theorem dX12_canBegin_93 : decode cX12_canBegin 93 = .ok (.invokevirtual 518, 3) := dk_182 (by decide +kernel)
theorem dX12_canBegin_96 : decode cX12_canBegin 96 = .ok (.aload_n 0, 1) := dk_42 (by decide +kernel)
theorem dX12_canBegin_97 : decode cX12_canBegin 97 = .ok (.getfield 515, 3) := dk_180 (by decide +kernel)
theorem dX12_canBegin_100 : decode cX12_canBegin 100 = .ok (.ifCond .ne 7, 3) := dk_154 (by decide +kernel)
theorem dX12_canBegin_103 : decode cX12_canBegin 103 = .ok (.iconst 1, 1) := dk_4 (by decide +kernel)
theorem dX12_canBegin_104 : decode cX12_canBegin 104 = .ok (.goto 4, 3) := dk_167 (by decide +kernel)
theorem dX12_canBegin_107 : decode cX12_canBegin 107 = .ok (.iconst 0, 1) := dk_3 (by decide +kernel)
theorem dX12_canBegin_108 : decode cX12_canBegin 108 = .ok (.ireturn, 1) := dk_172 (by decide +kernel)
def wsRX12_canBegin : List Cond := .code yX12_canBegin cX12_canBegin 2 (some .boolean) :: ([.fieldLink RX12 494 "OptimaWorksModel" "word" "I", .fieldLink RX12 515 "OptimaWorksModel" "stop" "I", .fieldLink RX12 488 "OptimaWorksModel" "from" "I"] ++ wsX120 ++ (wsV RX12 521 RX12 yX12_isSign wsRX12_isSign) ++ (wsV RX12 530 RX12 yX12_isKey wsRX12_isKey) ++ (wsV RX12 558 RX12 yX12_binder wsRbinderf) ++ (wsV RX12 555 RX12 yX12_declared wsRdeclaredf) ++ (wsV RX12 567 RX12 yX12_isNode wsRisNodeb) ++ (wsV RX12 518 RX12 yX12_faultAt wsRX12_faultAt) ++ (wsV RX12 567 RX12 yX12_isNode wsRisNodea) ++ (wsV RX12 527 RX12 yX12_wrong wsRX12_wrong))
theorem iwsRX12_canBegin_in12 : ∀ w ∈ wsX120, w ∈ wsRX12_canBegin := fun _ h => List.mem_cons_of_mem _ (List.mem_append_left _ (List.mem_append_left _ (List.mem_append_left _ (List.mem_append_left _ (List.mem_append_left _ (List.mem_append_left _ (List.mem_append_left _ (List.mem_append_left _ (List.mem_append_right _ h)))))))))
theorem gwsRX12_canBegin_0 : GoodIn wsRX12_canBegin (wsV RX12 521 RX12 yX12_isSign wsRX12_isSign) := goodIn_sub (fun _ h => List.mem_cons_of_mem _ (List.mem_append_left _ (List.mem_append_left _ (List.mem_append_left _ (List.mem_append_left _ (List.mem_append_left _ (List.mem_append_left _ (List.mem_append_left _ (List.mem_append_right _ h))))))))) (gdV (by decide +kernel) gdwsRX12_isSign)
theorem gwsRX12_canBegin_1 : GoodIn wsRX12_canBegin (wsV RX12 530 RX12 yX12_isKey wsRX12_isKey) := goodIn_sub (fun _ h => List.mem_cons_of_mem _ (List.mem_append_left _ (List.mem_append_left _ (List.mem_append_left _ (List.mem_append_left _ (List.mem_append_left _ (List.mem_append_left _ (List.mem_append_right _ h)))))))) (gdV (by decide +kernel) gdwsRX12_isKey)
theorem gwsRX12_canBegin_2 : GoodIn wsRX12_canBegin (wsV RX12 558 RX12 yX12_binder wsRbinderf) := goodIn_sub (fun _ h => List.mem_cons_of_mem _ (List.mem_append_left _ (List.mem_append_left _ (List.mem_append_left _ (List.mem_append_left _ (List.mem_append_left _ (List.mem_append_right _ h))))))) (gdV (by decide +kernel) gdwsRbinderf)
theorem gwsRX12_canBegin_3 : GoodIn wsRX12_canBegin (wsV RX12 555 RX12 yX12_declared wsRdeclaredf) := goodIn_sub (fun _ h => List.mem_cons_of_mem _ (List.mem_append_left _ (List.mem_append_left _ (List.mem_append_left _ (List.mem_append_left _ (List.mem_append_right _ h)))))) (gdV (by decide +kernel) gdwsRdeclaredf)
theorem gwsRX12_canBegin_4 : GoodIn wsRX12_canBegin (wsV RX12 567 RX12 yX12_isNode wsRisNodeb) := goodIn_sub (fun _ h => List.mem_cons_of_mem _ (List.mem_append_left _ (List.mem_append_left _ (List.mem_append_left _ (List.mem_append_right _ h))))) (gdV (by decide +kernel) gdwsRisNodeb)
theorem gwsRX12_canBegin_5 : GoodIn wsRX12_canBegin (wsV RX12 518 RX12 yX12_faultAt wsRX12_faultAt) := goodIn_sub (fun _ h => List.mem_cons_of_mem _ (List.mem_append_left _ (List.mem_append_left _ (List.mem_append_right _ h)))) (gdV (by decide +kernel) gdwsRX12_faultAt)
theorem gwsRX12_canBegin_6 : GoodIn wsRX12_canBegin (wsV RX12 567 RX12 yX12_isNode wsRisNodea) := goodIn_sub (fun _ h => List.mem_cons_of_mem _ (List.mem_append_left _ (List.mem_append_right _ h))) (gdV (by decide +kernel) gdwsRisNodea)
theorem gwsRX12_canBegin_7 : GoodIn wsRX12_canBegin (wsV RX12 527 RX12 yX12_wrong wsRX12_wrong) := goodIn_sub (fun _ h => List.mem_cons_of_mem _ (List.mem_append_right _ h)) (gdV (by decide +kernel) gdwsRX12_wrong)
theorem gdwsRX12_canBegin : wsRX12_canBegin.all goodWord = true := gdC rfl (gdA (gdA (gdA (gdA (gdA (gdA (gdA (gdA (gdA (by decide +kernel : ([.fieldLink RX12 494 "OptimaWorksModel" "word" "I", .fieldLink RX12 515 "OptimaWorksModel" "stop" "I", .fieldLink RX12 488 "OptimaWorksModel" "from" "I"] : List Cond).all goodWord = true) gdwsX120) (gdV (by decide +kernel) gdwsRX12_isSign)) (gdV (by decide +kernel) gdwsRX12_isKey)) (gdV (by decide +kernel) gdwsRbinderf)) (gdV (by decide +kernel) gdwsRdeclaredf)) (gdV (by decide +kernel) gdwsRisNodeb)) (gdV (by decide +kernel) gdwsRX12_faultAt)) (gdV (by decide +kernel) gdwsRisNodea)) (gdV (by decide +kernel) gdwsRX12_wrong))
theorem hm_r_X12_canBegin_0 : (.fieldLink RX12 494 "OptimaWorksModel" "word" "I" : Cond) ∈ wsRX12_canBegin := by decide +kernel
theorem hm_r_X12_canBegin_1 : (.fieldLink RX12 515 "OptimaWorksModel" "stop" "I" : Cond) ∈ wsRX12_canBegin := by decide +kernel
theorem hm_r_X12_canBegin_2 : (.fieldLink RX12 488 "OptimaWorksModel" "from" "I" : Cond) ∈ wsRX12_canBegin := by decide +kernel
set_option maxHeartbeats 4000000 in
set_option maxRecDepth 100000 in
/-- canBegin() -/
theorem r_X12_canBegin (l : Launch) (dC : Nat → ClassId) (dI : Nat → Nat → Nat) (a : Nat → Nat) (k : Nat → ClassId) (h0 : Nat) (vi : Nat → Int32) (vj : Nat → Int64) (vF : Nat → Nat → Int32) (vG : Nat → Nat → Int64) (tp : Nat) (an : Nat) (fn : Nat) (nm : Nat) (se : Nat) (pa : Nat) (va : Nat) (bd : Nat) (hTp : vi 16 = nI tp) (htp : tp ≤ 4000) (ha0 : vi 17 = nI an) (hfr : vi 19 = nI fn) (hLx : LxO tp fn an (vi 18) (vi 20)) (hst0 : 0 ≤ (vi 21).toInt) (hnm : vi 25 = nI nm) (hnm40 : nm ≤ 40) (hno : NmO (vF 11) (vF 12) nm) (hNk : NkO (vF 10) (vF 13) nm se pa va) (hbd : vi 30 = nI bd) (hbd60 : bd ≤ 60) (hbo : NmO (vF 14) (vF 15) 60) (sz : Nat) : Met l yX12_canBegin wsRX12_canBegin ({ frames := 2, cells := 0, slots := 0, locals := 47 }) (va_Pc [.ref h0] (fun U => U.heap.size = sz ∧ va_P (dC, dI) vwCl (WR a k h0 vi vj vF vG) U.heap ∧ va_K (dC, dI) vwCl (tX12 k) U ∧ va_D (fun _ => True) (WR a k h0 vi vj vF vG))) (va_Qi (fun (r : Int32) (u : (Int32) × (Int32)) => (r = 1 ∧ ((u.1) = 0) ∧ (CbW (vi 18) (vi 20)) ∧ (CbQ (vi 18) (vF 9) (vF 10) (vF 11) (vF 12) (vF 14) (vF 15) fn an nm bd)) ∨ (r = 0 ∧ (0 < ((u.1)).toInt))) (fun (u : (Int32) × (Int32)) t => va_P (dC, dI) vwCl (WR a k h0 (fT (fT vi 21 (u.1)) 22 (u.2)) vj vF vG) t.heap ∧ va_D (va_A (WR a k h0 vi vj vF vG) sz) (WR a k h0 (fT (fT vi 21 (u.1)) 22 (u.2)) vj vF vG)) (va_A (WR a k h0 vi vj vF vG) sz)) 0 0 (va_A (WR a k h0 vi vj vF vG) sz) := by
  refine Met.ofW (cc := cX12_canBegin) (maxL := 2) (ret := (some .boolean)) (by decide) rfl ?_
  intro p e s m args below meth c s₁ B hml hv
  obtain ⟨rfl, hsz, hP, hK, hD0⟩ := hv
  have hx := B.exec
  have hb := B.bytes
  have hr := B.returns
  have hts := atoms_spec (ws := wsRX12_canBegin) B.pre
  have hown : s.vm.findClass RX12 = some m.cls := findClass_of_methodNamed B.named
  have hlocks := B.notSynchronized
  subst hsz
  have hD := hD0.self (sz := s.heap.size)
  generalize hAe : va_A (WR a k h0 vi vj vF vG) s.heap.size = A at hD ⊢
  have hA : ∀ q : Nat, s.heap.size ≤ q → A q := fun q h => by rw [← hAe]; exact Or.inr h
  have hS : va_S A s.heap s.heap [] := va_S.rf
  have hl := lv_entry ([.ref h0]) (n := 2) (Nat.le_of_ble_eq_true rfl)
  rw [lg_entry_eq]
  generalize (lg_sl ([.ref h0]) ++ List.replicate (2 - (lg_sl ([.ref h0])).length) Slot.unset).toArray = ls at hl ⊢
  have hl : lv_has ls 2 [(0, .ref h0)] := hl
  have hfa := hLx.1
  have han := hLx.2.1
  have han4 : an ≤ 4000 := by omega
  refine lv_aload_n hx hb dX12_canBegin_0 rfl (lv_at hl 0 rfl) ?_
  refine va_get (D := (dC, dI)) (ci := 12) (v := .int (vi 18)) (C := RX12) (T := TX12) (N := 163) (fs := fM (vS a vi vj)) hx hb hts iwsRX12_canBegin_in12 hown hK hP 0 rfl rfl 18 (by decide) (hts _ hm_r_X12_canBegin_0) (fun _ h9 => h9) rfl dX12_canBegin_1 ?_
  refine lv_iconst (v := 3) hx hb dX12_canBegin_4 (by decide) ?_
  refine W.cut (pc := 48) (fun H locs ls stk => ∃ (zq : Int32), ((zq = 1 ∧ CbW (vi 18) (vi 20)) ∨ (zq = 0 ∧ zq = 0)) ∧  stk = [.int zq] ∧ va_P (dC, dI) vwCl (WR a k h0 vi vj vF vG) H ∧ va_D A (WR a k h0 vi vj vF vG) ∧ va_S A s.heap H locs ∧ lv_has ls 2 [(0, .ref h0)]) (fun join1 => ?_) ?_
  · refine lv_icmp_eq (tgt := 43) hx hb dX12_canBegin_5 (by decide) (fun c_5 => ?_) (fun c_5 => ?_)
    · have t_5 : ((vi 18)).toInt = 3 := toI_eq c_5 rfl (by decide)
      refine lv_iconst (v := 1) hx hb dX12_canBegin_43 (by decide) ?_
      refine lv_goto (tgt := 48) hx hb dX12_canBegin_44 (by decide) ?_
      have hl : lv_has _ _ ([(0, .ref h0)]) := lv_sub hl [0] rfl
      exact join1 _ _ _ _ ⟨1, Or.inl ⟨rfl, by first | exact Or.inl (by omega) | exact Or.inr (Or.inl (by omega)) | exact Or.inr (Or.inr (Or.inl ⟨f19_0, f19_1⟩)) | exact Or.inr (Or.inr (Or.inr (Or.inl ⟨f28_0, f28_1⟩))) | exact Or.inr (Or.inr (Or.inr (Or.inr ⟨f37_0, f37_1⟩)))⟩, rfl, hP, hD, hS, hl⟩
    · have t_5 : ¬ ((vi 18)).toInt = 3 := toI_neq c_5 rfl (by decide)
      refine lv_aload_n hx hb dX12_canBegin_8 rfl (lv_at hl 0 rfl) ?_
      refine va_get (D := (dC, dI)) (ci := 12) (v := .int (vi 18)) (C := RX12) (T := TX12) (N := 163) (fs := fM (vS a vi vj)) hx hb hts iwsRX12_canBegin_in12 hown hK hP 0 rfl rfl 18 (by decide) (hts _ hm_r_X12_canBegin_0) (fun _ h9 => h9) rfl dX12_canBegin_9 ?_
      refine lv_iconst (v := 1) hx hb dX12_canBegin_12 (by decide) ?_
      refine lv_icmp_eq (tgt := 43) hx hb dX12_canBegin_13 (by decide) (fun c_13 => ?_) (fun c_13 => ?_)
      · have t_13 : ((vi 18)).toInt = 1 := toI_eq c_13 rfl (by decide)
        refine lv_iconst (v := 1) hx hb dX12_canBegin_43 (by decide) ?_
        refine lv_goto (tgt := 48) hx hb dX12_canBegin_44 (by decide) ?_
        have hl : lv_has _ _ ([(0, .ref h0)]) := lv_sub hl [0] rfl
        exact join1 _ _ _ _ ⟨1, Or.inl ⟨rfl, by first | exact Or.inl (by omega) | exact Or.inr (Or.inl (by omega)) | exact Or.inr (Or.inr (Or.inl ⟨f19_0, f19_1⟩)) | exact Or.inr (Or.inr (Or.inr (Or.inl ⟨f28_0, f28_1⟩))) | exact Or.inr (Or.inr (Or.inr (Or.inr ⟨f37_0, f37_1⟩)))⟩, rfl, hP, hD, hS, hl⟩
      · have t_13 : ¬ ((vi 18)).toInt = 1 := toI_neq c_13 rfl (by decide)
        refine lv_aload_n hx hb dX12_canBegin_16 rfl (lv_at hl 0 rfl) ?_
        refine lv_bipush (v := 45) hx hb dX12_canBegin_17 (by decide) ?_
        have hFc := allFree hD hS hA
        refine va_calli (va_runV (As := [.int 45]) (rest := []) ⟨hx, hb, hml, hown, hts⟩ (r_X12_isSign l dC dI a k h0 vi vj vF vG 45 s.heap.size) (cwV 1 hts gwsRX12_canBegin_0 rfl rfl rfl hd_yX12_isSign_RX12 (by decide +kernel)) (fz_pre (va_recv hK hP (ci := 12) (q0 := 0) rfl rfl) hP hK hD) rfl rfl hl.1 rfl (lv_room (Nat.le_of_ble_eq_true rfl)) dX12_canBegin_19 (by decide +kernel)) hS (fun q _ h => hFc q h) hFc (fun r19 u t9_ H locs ht hvm hw9 hB9 hz1 hk1 hS => ?_)
        have hP : va_P (dC, dI) vwCl (WR a k h0 vi vj vF vG) H := fz_P ht hB9.1
        have hD := fz_sd hP (hB9.2.weaken (fun _ q _ h => hFc q.1 h)) rfl
        rcases hw9 with ⟨rfl, f19_0, f19_1⟩ | ⟨rfl, f19_0⟩
        · have f19_0 : (vi 18).toInt = 4 := f19_0
          have f19_1 : (vi 20) = 45 := f19_1
          refine lv_if_ne (tgt := 43) hx hb dX12_canBegin_22 (by decide) (fun _ => ?_) (fun c9 => absurd c9 (by decide))
          refine lv_iconst (v := 1) hx hb dX12_canBegin_43 (by decide) ?_
          refine lv_goto (tgt := 48) hx hb dX12_canBegin_44 (by decide) ?_
          have hl : lv_has _ _ ([(0, .ref h0)]) := lv_sub hl [0] rfl
          exact join1 _ _ _ _ ⟨1, Or.inl ⟨rfl, by first | exact Or.inl (by omega) | exact Or.inr (Or.inl (by omega)) | exact Or.inr (Or.inr (Or.inl ⟨f19_0, f19_1⟩)) | exact Or.inr (Or.inr (Or.inr (Or.inl ⟨f28_0, f28_1⟩))) | exact Or.inr (Or.inr (Or.inr (Or.inr ⟨f37_0, f37_1⟩)))⟩, rfl, hP, hD, hS, hl⟩
        · have f19_0 : ¬ ((vi 18).toInt = 4 ∧ (vi 20) = 45) := f19_0
          refine lv_if_ne (tgt := 43) hx hb dX12_canBegin_22 (by decide) (fun c9 => absurd c9 (by decide)) (fun _ => ?_)
          refine lv_aload_n hx hb dX12_canBegin_25 rfl (lv_at hl 0 rfl) ?_
          refine lv_bipush (v := 40) hx hb dX12_canBegin_26 (by decide) ?_
          have hFc := allFree hD hS hA
          refine va_calli (va_runV (As := [.int 40]) (rest := []) ⟨hx, hb, hml, hown, hts⟩ (r_X12_isSign l dC dI a k h0 vi vj vF vG 40 H.size) (cwV 1 hts gwsRX12_canBegin_0 rfl rfl rfl hd_yX12_isSign_RX12 (by decide +kernel)) (fz_pre (va_recv hK hP (ci := 12) (q0 := 0) rfl rfl) hP hK hD) rfl rfl hl.1 rfl (lv_room (Nat.le_of_ble_eq_true rfl)) dX12_canBegin_28 (by decide +kernel)) hS (fun q _ h => hFc q h) hFc (fun r28 u t9_ H locs ht hvm hw9 hB9 hz1 hk1 hS => ?_)
          have hP : va_P (dC, dI) vwCl (WR a k h0 vi vj vF vG) H := fz_P ht hB9.1
          have hD := fz_sd hP (hB9.2.weaken (fun _ q _ h => hFc q.1 h)) rfl
          rcases hw9 with ⟨rfl, f28_0, f28_1⟩ | ⟨rfl, f28_0⟩
          · have f28_0 : (vi 18).toInt = 4 := f28_0
            have f28_1 : (vi 20) = 40 := f28_1
            refine lv_if_ne (tgt := 43) hx hb dX12_canBegin_31 (by decide) (fun _ => ?_) (fun c9 => absurd c9 (by decide))
            refine lv_iconst (v := 1) hx hb dX12_canBegin_43 (by decide) ?_
            refine lv_goto (tgt := 48) hx hb dX12_canBegin_44 (by decide) ?_
            have hl : lv_has _ _ ([(0, .ref h0)]) := lv_sub hl [0] rfl
            exact join1 _ _ _ _ ⟨1, Or.inl ⟨rfl, by first | exact Or.inl (by omega) | exact Or.inr (Or.inl (by omega)) | exact Or.inr (Or.inr (Or.inl ⟨f19_0, f19_1⟩)) | exact Or.inr (Or.inr (Or.inr (Or.inl ⟨f28_0, f28_1⟩))) | exact Or.inr (Or.inr (Or.inr (Or.inr ⟨f37_0, f37_1⟩)))⟩, rfl, hP, hD, hS, hl⟩
          · have f28_0 : ¬ ((vi 18).toInt = 4 ∧ (vi 20) = 40) := f28_0
            refine lv_if_ne (tgt := 43) hx hb dX12_canBegin_31 (by decide) (fun c9 => absurd c9 (by decide)) (fun _ => ?_)
            refine lv_aload_n hx hb dX12_canBegin_34 rfl (lv_at hl 0 rfl) ?_
            refine lv_bipush (v := 12) hx hb dX12_canBegin_35 (by decide) ?_
            have hFc := allFree hD hS hA
            refine va_calli (va_runV (As := [.int 12]) (rest := []) ⟨hx, hb, hml, hown, hts⟩ (r_X12_isKey l dC dI a k h0 vi vj vF vG 12 H.size) (cwV 1 hts gwsRX12_canBegin_1 rfl rfl rfl hd_yX12_isKey_RX12 (by decide +kernel)) (fz_pre (va_recv hK hP (ci := 12) (q0 := 0) rfl rfl) hP hK hD) rfl rfl hl.1 rfl (lv_room (Nat.le_of_ble_eq_true rfl)) dX12_canBegin_37 (by decide +kernel)) hS (fun q _ h => hFc q h) hFc (fun r37 u t9_ H locs ht hvm hw9 hB9 hz1 hk1 hS => ?_)
            have hP : va_P (dC, dI) vwCl (WR a k h0 vi vj vF vG) H := fz_P ht hB9.1
            have hD := fz_sd hP (hB9.2.weaken (fun _ q _ h => hFc q.1 h)) rfl
            rcases hw9 with ⟨rfl, f37_0, f37_1⟩ | ⟨rfl, f37_0⟩
            · have f37_0 : (vi 18).toInt = 2 := f37_0
              have f37_1 : (vi 20) = 12 := f37_1
              refine lv_if_eq (tgt := 47) hx hb dX12_canBegin_40 (by decide) (fun c9 => absurd c9 (by decide)) (fun _ => ?_)
              refine lv_iconst (v := 1) hx hb dX12_canBegin_43 (by decide) ?_
              refine lv_goto (tgt := 48) hx hb dX12_canBegin_44 (by decide) ?_
              have hl : lv_has _ _ ([(0, .ref h0)]) := lv_sub hl [0] rfl
              exact join1 _ _ _ _ ⟨1, Or.inl ⟨rfl, by first | exact Or.inl (by omega) | exact Or.inr (Or.inl (by omega)) | exact Or.inr (Or.inr (Or.inl ⟨f19_0, f19_1⟩)) | exact Or.inr (Or.inr (Or.inr (Or.inl ⟨f28_0, f28_1⟩))) | exact Or.inr (Or.inr (Or.inr (Or.inr ⟨f37_0, f37_1⟩)))⟩, rfl, hP, hD, hS, hl⟩
            · have f37_0 : ¬ ((vi 18).toInt = 2 ∧ (vi 20) = 12) := f37_0
              refine lv_if_eq (tgt := 47) hx hb dX12_canBegin_40 (by decide) (fun _ => ?_) (fun c9 => absurd (by decide) c9)
              refine lv_iconst (v := 0) hx hb dX12_canBegin_47 (by decide) ?_
              have hl : lv_has _ _ ([(0, .ref h0)]) := lv_sub hl [0] rfl
              exact join1 _ _ _ _ ⟨0, Or.inr ⟨rfl, rfl⟩, rfl, hP, hD, hS, hl⟩
  · rintro H locs ls stk ⟨zq, hzq, rfl, hP, hD, hS, hl⟩
    refine lv_istore_n hx hb dX12_canBegin_48 rfl hl (by decide) rfl (fun ls (hl : lv_has ls _ ([(1, .int zq), (0, .ref h0)])) => ?_)
    refine lv_iload_n hx hb dX12_canBegin_49 rfl (lv_at hl 0 rfl) ?_
    refine lv_if_ne (tgt := 60) hx hb dX12_canBegin_50 (by decide) (fun c_50 => ?_) (fun c_50 => ?_)
    · have t_50 : (zq).toInt ≠ 0 := toI_ne c_50 rfl (by decide)
      refine lv_aload_n hx hb dX12_canBegin_60 rfl (lv_at hl 1 rfl) ?_
      refine va_get (D := (dC, dI)) (ci := 12) (v := .int (vi 18)) (C := RX12) (T := TX12) (N := 163) (fs := fM (vS a vi vj)) hx hb hts iwsRX12_canBegin_in12 hown hK hP 0 rfl rfl 18 (by decide) (hts _ hm_r_X12_canBegin_0) (fun _ h9 => h9) rfl dX12_canBegin_61 ?_
      refine lv_iconst (v := 1) hx hb dX12_canBegin_64 (by decide) ?_
      refine lv_icmp_ne (tgt := 96) hx hb dX12_canBegin_65 (by decide) (fun c_65 => ?_) (fun c_65 => ?_)
      · have t_65 : ((vi 18)).toInt ≠ 1 := toI_ne c_65 rfl (by decide)
        refine lv_aload_n hx hb dX12_canBegin_96 rfl (lv_at hl 1 rfl) ?_
        refine va_get (D := (dC, dI)) (ci := 12) (v := .int (vi 21)) (C := RX12) (T := TX12) (N := 163) (fs := fM (vS a vi vj)) hx hb hts iwsRX12_canBegin_in12 hown hK hP 0 rfl rfl 21 (by decide) (hts _ hm_r_X12_canBegin_1) (fun _ h9 => h9) rfl dX12_canBegin_97 ?_
        refine lv_if_ne (tgt := 107) hx hb dX12_canBegin_100 (by decide) (fun c_100 => ?_) (fun c_100 => ?_)
        · have t_100 : ((vi 21)).toInt ≠ 0 := toI_ne c_100 rfl (by decide)
          refine lv_iconst (v := 0) hx hb dX12_canBegin_107 (by decide) ?_
          refine W.widen (k := 0) (n := 0) (by decide +kernel) (by decide +kernel) ?_
          have e9 : fT (fT vi 21 (vi 21)) 22 (vi 22) = vi := (fT_id _ _ (fT_ne _ _ (Nat.ne_of_beq_eq_false rfl))).trans (fT_id _ _ (rfl))
          have hP := wr_Pi e9 hP
          have hD := wr_Di e9 hD
          clear e9
          exact W.zret (v := 0) hx hb hr rfl (fun t9_ ht hW => ⟨⟨0, ((vi 21), (vi 22)), rfl, by (try dsimp only); exact Or.inr ⟨rfl, by omega⟩, by rw [ht]; exact hP, hD⟩, hS.F ht⟩) hS.2.2 dX12_canBegin_108
        · have t_100 : ((vi 21)).toInt = 0 := toI_nne c_100 rfl (by decide)
          refine lv_iconst (v := 1) hx hb dX12_canBegin_103 (by decide) ?_
          refine lv_goto (tgt := 108) hx hb dX12_canBegin_104 (by decide) ?_
          refine W.widen (k := 0) (n := 0) (by decide +kernel) (by decide +kernel) ?_
          have e9 : fT (fT vi 21 (vi 21)) 22 (vi 22) = vi := (fT_id _ _ (fT_ne _ _ (Nat.ne_of_beq_eq_false rfl))).trans (fT_id _ _ (rfl))
          have hP := wr_Pi e9 hP
          have hD := wr_Di e9 hD
          clear e9
          exact W.zret (v := 1) hx hb hr rfl (fun t9_ ht hW => ⟨⟨1, ((vi 21), (vi 22)), rfl, by (try dsimp only); exact Or.inl ⟨rfl, i32z (by omega), (hzq.resolve_right (fun h => c_50 h.1)).2, fun h9 => absurd h9 (by omega)⟩, by rw [ht]; exact hP, hD⟩, hS.F ht⟩) hS.2.2 dX12_canBegin_108
      · have t_65 : ((vi 18)).toInt = 1 := toI_nne c_65 rfl (by decide)
        refine lv_aload_n hx hb dX12_canBegin_68 rfl (lv_at hl 1 rfl) ?_
        have hFc := allFree hD hS hA
        refine va_calli (va_runV (As := []) (rest := []) ⟨hx, hb, hml, hown, hts⟩ (r_X12_binderf l dC dI a k h0 vi vj vF vG an fn bd ha0 hfr (by first | with_reducible assumption | decide | omega | rfl | assumption) (by first | with_reducible assumption | decide | omega | rfl | assumption) (hbd) (by first | with_reducible assumption | decide | omega | rfl | assumption) ((fun k9 h9 => hbo k9 (by omega))) H.size) (cwV 0 hts gwsRX12_canBegin_2 rfl rfl rfl hd_yX12_binder_RX12 (by decide +kernel)) (fz_pre (va_recv hK hP (ci := 12) (q0 := 0) rfl rfl) hP hK hD) rfl rfl hl.1 rfl (lv_room (Nat.le_of_ble_eq_true rfl)) dX12_canBegin_69 (by decide +kernel)) hS (fun q _ h => hFc q h) hFc (fun r69 kx69 t9_ H locs ht hvm hw9 hB9 hz1 hk1 hS => ?_)
        have hP : va_P (dC, dI) vwCl (WR a k h0 vi vj vF vG) H := fz_P ht hB9.1
        have hD := fz_sd hP (hB9.2.weaken (fun _ q _ h => hFc q.1 h)) rfl
        rcases hw9 with ⟨rfl, f69_0⟩ | ⟨rfl, f69_0, f69_1⟩
        · have f69_0 : ∀ k, k < bd → ¬ SmW (vF 9) (vF 14) (vF 15) fn an k := f69_0
          refine lv_iconst (v := (-1)) hx hb dX12_canBegin_72 (by decide) ?_
          refine lv_icmp_ne (tgt := 96) hx hb dX12_canBegin_73 (by decide) (fun c9 => absurd c9 (by decide)) (fun _ => ?_)
          refine lv_aload_n hx hb dX12_canBegin_76 rfl (lv_at hl 1 rfl) ?_
          refine lv_aload_n hx hb dX12_canBegin_77 rfl (lv_at hl 1 rfl) ?_
          have hFc := allFree hD hS hA
          refine va_calli (va_runV (As := []) (rest := [.ref h0]) ⟨hx, hb, hml, hown, hts⟩ (r_X12_declaredf l dC dI a k h0 vi vj vF vG an fn nm ha0 hfr (by first | with_reducible assumption | decide | omega | rfl | assumption) (by first | with_reducible assumption | decide | omega | rfl | assumption) hnm (by first | with_reducible assumption | decide | omega | rfl | assumption) (by first | with_reducible assumption | decide | omega | rfl | assumption) H.size) (cwV 0 hts gwsRX12_canBegin_3 rfl rfl rfl hd_yX12_declared_RX12 (by decide +kernel)) (fz_pre (va_recv hK hP (ci := 12) (q0 := 0) rfl rfl) hP hK hD) rfl rfl hl.1 rfl (lv_room (Nat.le_of_ble_eq_true rfl)) dX12_canBegin_78 (by decide +kernel)) hS (fun q _ h => hFc q h) hFc (fun r78 kx78 t9_ H locs ht hvm hw9 hB9 hz1 hk1 hS => ?_)
          have hP : va_P (dC, dI) vwCl (WR a k h0 vi vj vF vG) H := fz_P ht hB9.1
          have hD := fz_sd hP (hB9.2.weaken (fun _ q _ h => hFc q.1 h)) rfl
          rcases hw9 with ⟨rfl, f78_0⟩ | ⟨rfl, f78_0, f78_1, f78_2⟩
          · have f78_0 : ∀ k, k < nm → ¬ SmW (vF 9) (vF 11) (vF 12) fn an k := f78_0
            have hFc := allFree hD hS hA
            refine va_calli (va_runV (As := [.int (-1)]) (rest := []) ⟨hx, hb, hml, hown, hts⟩ (r_X12_isNodeb l dC dI a k h0 vi vj vF vG H.size) (cwV 1 hts gwsRX12_canBegin_4 rfl rfl rfl hd_yX12_isNode_RX12 (by decide +kernel)) (fz_pre (va_recv hK hP (ci := 12) (q0 := 0) rfl rfl) hP hK hD) rfl rfl hl.1 rfl (lv_room (Nat.le_of_ble_eq_true rfl)) dX12_canBegin_81 (by decide +kernel)) hS (fun q _ h => hFc q h) hFc (fun r81 u t9_ H locs ht hvm hw9 hB9 hz1 hk1 hS => ?_)
            have hP : va_P (dC, dI) vwCl (WR a k h0 vi vj vF vG) H := fz_P ht hB9.1
            have hD := fz_sd hP (hB9.2.weaken (fun _ q _ h => hFc q.1 h)) rfl
            obtain rfl := hw9
            refine lv_if_ne (tgt := 96) hx hb dX12_canBegin_84 (by decide) (fun c9 => absurd c9 (by decide)) (fun _ => ?_)
            refine lv_aload_n hx hb dX12_canBegin_87 rfl (lv_at hl 1 rfl) ?_
            refine lv_iconst (v := 3) hx hb dX12_canBegin_88 (by decide) ?_
            refine lv_aload_n hx hb dX12_canBegin_89 rfl (lv_at hl 1 rfl) ?_
            refine va_get (D := (dC, dI)) (ci := 12) (v := .int (vi 19)) (C := RX12) (T := TX12) (N := 163) (fs := fM (vS a vi vj)) hx hb hts iwsRX12_canBegin_in12 hown hK hP 0 rfl rfl 19 (by decide) (hts _ hm_r_X12_canBegin_2) (fun _ h9 => h9) rfl dX12_canBegin_90 ?_
            refine lv_topi (fun y1 hy1 => ?_)
            obtain rfl : (nI fn) = y1 := (hy1.trans (hfr)).symm
            have hFc := allFree hD hS hA
            refine va_callv (va_runV (As := [.int 3, .int (nI fn)]) (rest := []) ⟨hx, hb, hml, hown, hts⟩ (r_X12_faultAt l dC dI a k h0 vi vj vF vG 3 (nI fn) (by first | with_reducible assumption | decide | omega | rfl | assumption) H.size) (cwV 2 hts gwsRX12_canBegin_5 rfl rfl rfl hd_yX12_faultAt_RX12 (by decide +kernel)) (fz_pre (va_recv hK hP (ci := 12) (q0 := 0) rfl rfl) hP hK hD) rfl rfl hl.1 rfl (lv_room (Nat.le_of_ble_eq_true rfl)) dX12_canBegin_93 (by decide +kernel)) hS (fun q _ h => hFc q h) hFc (fun u t9_ H locs ht hvm hw9 hB9 hz1 hk1 hS => ?_)
            revert u hw9 hB9
            refine fz_p2 ?_
            intro s293 p293 hw9 hB9
            try dsimp only at hw9 hB9
            have hP : va_P (dC, dI) vwCl (WR a k h0 (fT (fT vi 21 s293) 22 p293) vj vF vG) H := fz_P ht hB9.1
            have hD := fz_sd hP (hB9.2.weaken (fun _ q _ h => hFc q.1 h)) rfl
            revert hw9
            refine fz_a2 ?_
            intro f93_0 f93_1
            have f93_0 : (0 < (vi 21).toInt ∧ s293 = (vi 21) ∧ p293 = (vi 22)) ∨ (¬ 0 < (vi 21).toInt ∧ s293 = 3 ∧ p293 = (nI fn)) := f93_0
            refine lv_aload_n hx hb dX12_canBegin_96 rfl (lv_at hl 1 rfl) ?_
            refine va_get (D := (dC, dI)) (ci := 12) (v := .int s293) (C := RX12) (T := TX12) (N := 163) (fs := fM (vS a (fT (fT vi 21 s293) 22 p293) vj)) hx hb hts iwsRX12_canBegin_in12 hown hK hP 0 rfl rfl 21 (by decide) (hts _ hm_r_X12_canBegin_1) (fun _ h9 => h9) rfl dX12_canBegin_97 ?_
            refine lv_if_ne (tgt := 107) hx hb dX12_canBegin_100 (by decide) (fun c_100 => ?_) (fun c9 => False.elim (by have t9 : (s293).toInt = 0 := toI_nne c9 rfl (by decide); omega))
            have t_100 : (s293).toInt ≠ 0 := toI_ne c_100 rfl (by decide)
            refine lv_iconst (v := 0) hx hb dX12_canBegin_107 (by decide) ?_
            refine W.widen (k := 0) (n := 0) (by decide +kernel) (by decide +kernel) ?_
            exact W.zret (v := 0) hx hb hr rfl (fun t9_ ht hW => ⟨⟨0, (s293, p293), rfl, by (try dsimp only); exact Or.inr ⟨rfl, by omega⟩, by rw [ht]; exact hP, hD⟩, hS.F ht⟩) hS.2.2 dX12_canBegin_108
          · have f78_1 : SmW (vF 9) (vF 11) (vF 12) fn an kx78 := f78_1
            have f78_2 : ∀ k, k < kx78 → ¬ SmW (vF 9) (vF 11) (vF 12) fn an k := f78_2
            have hFc := allFree hD hS hA
            refine va_calli (va_runV (As := [.int (nI kx78)]) (rest := []) ⟨hx, hb, hml, hown, hts⟩ (r_X12_isNodea l dC dI a k h0 vi vj vF vG kx78 (by first | with_reducible assumption | decide | omega | rfl | assumption) H.size) (cwV 1 hts gwsRX12_canBegin_6 rfl rfl rfl hd_yX12_isNode_RX12 (by decide +kernel)) (fz_pre (va_recv hK hP (ci := 12) (q0 := 0) rfl rfl) hP hK hD) rfl rfl hl.1 rfl (lv_room (Nat.le_of_ble_eq_true rfl)) dX12_canBegin_81 (by decide +kernel)) hS (fun q _ h => hFc q h) hFc (fun r81_1 u t9_ H locs ht hvm hw9 hB9 hz1 hk1 hS => ?_)
            have hP : va_P (dC, dI) vwCl (WR a k h0 vi vj vF vG) H := fz_P ht hB9.1
            have hD := fz_sd hP (hB9.2.weaken (fun _ q _ h => hFc q.1 h)) rfl
            rcases hw9 with ⟨rfl, f81_1_0⟩ | ⟨rfl, f81_1_0⟩
            · have f81_1_0 : (vF 10) kx78 = 2 ∨ (vF 10) kx78 = 3 := f81_1_0
              refine lv_if_ne (tgt := 96) hx hb dX12_canBegin_84 (by decide) (fun _ => ?_) (fun c9 => absurd c9 (by decide))
              refine lv_aload_n hx hb dX12_canBegin_96 rfl (lv_at hl 1 rfl) ?_
              refine va_get (D := (dC, dI)) (ci := 12) (v := .int (vi 21)) (C := RX12) (T := TX12) (N := 163) (fs := fM (vS a vi vj)) hx hb hts iwsRX12_canBegin_in12 hown hK hP 0 rfl rfl 21 (by decide) (hts _ hm_r_X12_canBegin_1) (fun _ h9 => h9) rfl dX12_canBegin_97 ?_
              refine lv_if_ne (tgt := 107) hx hb dX12_canBegin_100 (by decide) (fun c_100 => ?_) (fun c_100 => ?_)
              · have t_100 : ((vi 21)).toInt ≠ 0 := toI_ne c_100 rfl (by decide)
                refine lv_iconst (v := 0) hx hb dX12_canBegin_107 (by decide) ?_
                refine W.widen (k := 0) (n := 0) (by decide +kernel) (by decide +kernel) ?_
                have e9 : fT (fT vi 21 (vi 21)) 22 (vi 22) = vi := (fT_id _ _ (fT_ne _ _ (Nat.ne_of_beq_eq_false rfl))).trans (fT_id _ _ (rfl))
                have hP := wr_Pi e9 hP
                have hD := wr_Di e9 hD
                clear e9
                exact W.zret (v := 0) hx hb hr rfl (fun t9_ ht hW => ⟨⟨0, ((vi 21), (vi 22)), rfl, by (try dsimp only); exact Or.inr ⟨rfl, by omega⟩, by rw [ht]; exact hP, hD⟩, hS.F ht⟩) hS.2.2 dX12_canBegin_108
              · have t_100 : ((vi 21)).toInt = 0 := toI_nne c_100 rfl (by decide)
                refine lv_iconst (v := 1) hx hb dX12_canBegin_103 (by decide) ?_
                refine lv_goto (tgt := 108) hx hb dX12_canBegin_104 (by decide) ?_
                refine W.widen (k := 0) (n := 0) (by decide +kernel) (by decide +kernel) ?_
                have e9 : fT (fT vi 21 (vi 21)) 22 (vi 22) = vi := (fT_id _ _ (fT_ne _ _ (Nat.ne_of_beq_eq_false rfl))).trans (fT_id _ _ (rfl))
                have hP := wr_Pi e9 hP
                have hD := wr_Di e9 hD
                clear e9
                exact W.zret (v := 1) hx hb hr rfl (fun t9_ ht hW => ⟨⟨1, ((vi 21), (vi 22)), rfl, by (try dsimp only); exact Or.inl ⟨rfl, i32z (by omega), (hzq.resolve_right (fun h => c_50 h.1)).2, fun _ => by first | exact Or.inl ⟨kx69, f69_0, f69_1⟩ | exact Or.inr ⟨kx78, f78_0, f78_1, f78_2, f81_1_0⟩⟩, by rw [ht]; exact hP, hD⟩, hS.F ht⟩) hS.2.2 dX12_canBegin_108
            · have f81_1_0 : ¬ ((vF 10) kx78 = 2 ∨ (vF 10) kx78 = 3) := f81_1_0
              refine lv_if_ne (tgt := 96) hx hb dX12_canBegin_84 (by decide) (fun c9 => absurd c9 (by decide)) (fun _ => ?_)
              refine lv_aload_n hx hb dX12_canBegin_87 rfl (lv_at hl 1 rfl) ?_
              refine lv_iconst (v := 3) hx hb dX12_canBegin_88 (by decide) ?_
              refine lv_aload_n hx hb dX12_canBegin_89 rfl (lv_at hl 1 rfl) ?_
              refine va_get (D := (dC, dI)) (ci := 12) (v := .int (vi 19)) (C := RX12) (T := TX12) (N := 163) (fs := fM (vS a vi vj)) hx hb hts iwsRX12_canBegin_in12 hown hK hP 0 rfl rfl 19 (by decide) (hts _ hm_r_X12_canBegin_2) (fun _ h9 => h9) rfl dX12_canBegin_90 ?_
              refine lv_topi (fun y2 hy2 => ?_)
              obtain rfl : (nI fn) = y2 := (hy2.trans (hfr)).symm
              have hFc := allFree hD hS hA
              refine va_callv (va_runV (As := [.int 3, .int (nI fn)]) (rest := []) ⟨hx, hb, hml, hown, hts⟩ (r_X12_faultAt l dC dI a k h0 vi vj vF vG 3 (nI fn) (by first | with_reducible assumption | decide | omega | rfl | assumption) H.size) (cwV 2 hts gwsRX12_canBegin_5 rfl rfl rfl hd_yX12_faultAt_RX12 (by decide +kernel)) (fz_pre (va_recv hK hP (ci := 12) (q0 := 0) rfl rfl) hP hK hD) rfl rfl hl.1 rfl (lv_room (Nat.le_of_ble_eq_true rfl)) dX12_canBegin_93 (by decide +kernel)) hS (fun q _ h => hFc q h) hFc (fun u t9_ H locs ht hvm hw9 hB9 hz1 hk1 hS => ?_)
              revert u hw9 hB9
              refine fz_p2 ?_
              intro s293_1 p293_1 hw9 hB9
              try dsimp only at hw9 hB9
              have hP : va_P (dC, dI) vwCl (WR a k h0 (fT (fT vi 21 s293_1) 22 p293_1) vj vF vG) H := fz_P ht hB9.1
              have hD := fz_sd hP (hB9.2.weaken (fun _ q _ h => hFc q.1 h)) rfl
              revert hw9
              refine fz_a2 ?_
              intro f93_1_0 f93_1_1
              have f93_1_0 : (0 < (vi 21).toInt ∧ s293_1 = (vi 21) ∧ p293_1 = (vi 22)) ∨ (¬ 0 < (vi 21).toInt ∧ s293_1 = 3 ∧ p293_1 = (nI fn)) := f93_1_0
              refine lv_aload_n hx hb dX12_canBegin_96 rfl (lv_at hl 1 rfl) ?_
              refine va_get (D := (dC, dI)) (ci := 12) (v := .int s293_1) (C := RX12) (T := TX12) (N := 163) (fs := fM (vS a (fT (fT vi 21 s293_1) 22 p293_1) vj)) hx hb hts iwsRX12_canBegin_in12 hown hK hP 0 rfl rfl 21 (by decide) (hts _ hm_r_X12_canBegin_1) (fun _ h9 => h9) rfl dX12_canBegin_97 ?_
              refine lv_if_ne (tgt := 107) hx hb dX12_canBegin_100 (by decide) (fun c_100 => ?_) (fun c9 => False.elim (by have t9 : (s293_1).toInt = 0 := toI_nne c9 rfl (by decide); omega))
              have t_100 : (s293_1).toInt ≠ 0 := toI_ne c_100 rfl (by decide)
              refine lv_iconst (v := 0) hx hb dX12_canBegin_107 (by decide) ?_
              refine W.widen (k := 0) (n := 0) (by decide +kernel) (by decide +kernel) ?_
              exact W.zret (v := 0) hx hb hr rfl (fun t9_ ht hW => ⟨⟨0, (s293_1, p293_1), rfl, by (try dsimp only); exact Or.inr ⟨rfl, by omega⟩, by rw [ht]; exact hP, hD⟩, hS.F ht⟩) hS.2.2 dX12_canBegin_108
        · have f69_1 : SmW (vF 9) (vF 14) (vF 15) fn an kx69 := f69_1
          refine lv_iconst (v := (-1)) hx hb dX12_canBegin_72 (by decide) ?_
          refine lv_icmp_ne (tgt := 96) hx hb dX12_canBegin_73 (by decide) (fun c_73 => ?_) (fun c_73 => ?_)
          · have t_73 : ((kx69 : Nat) : Int) ≠ -1 := toI_ne c_73 (nI_toInt (by omega)) (by decide)
            refine lv_aload_n hx hb dX12_canBegin_96 rfl (lv_at hl 1 rfl) ?_
            refine va_get (D := (dC, dI)) (ci := 12) (v := .int (vi 21)) (C := RX12) (T := TX12) (N := 163) (fs := fM (vS a vi vj)) hx hb hts iwsRX12_canBegin_in12 hown hK hP 0 rfl rfl 21 (by decide) (hts _ hm_r_X12_canBegin_1) (fun _ h9 => h9) rfl dX12_canBegin_97 ?_
            refine lv_if_ne (tgt := 107) hx hb dX12_canBegin_100 (by decide) (fun c_100 => ?_) (fun c_100 => ?_)
            · have t_100 : ((vi 21)).toInt ≠ 0 := toI_ne c_100 rfl (by decide)
              refine lv_iconst (v := 0) hx hb dX12_canBegin_107 (by decide) ?_
              refine W.widen (k := 0) (n := 0) (by decide +kernel) (by decide +kernel) ?_
              have e9 : fT (fT vi 21 (vi 21)) 22 (vi 22) = vi := (fT_id _ _ (fT_ne _ _ (Nat.ne_of_beq_eq_false rfl))).trans (fT_id _ _ (rfl))
              have hP := wr_Pi e9 hP
              have hD := wr_Di e9 hD
              clear e9
              exact W.zret (v := 0) hx hb hr rfl (fun t9_ ht hW => ⟨⟨0, ((vi 21), (vi 22)), rfl, by (try dsimp only); exact Or.inr ⟨rfl, by omega⟩, by rw [ht]; exact hP, hD⟩, hS.F ht⟩) hS.2.2 dX12_canBegin_108
            · have t_100 : ((vi 21)).toInt = 0 := toI_nne c_100 rfl (by decide)
              refine lv_iconst (v := 1) hx hb dX12_canBegin_103 (by decide) ?_
              refine lv_goto (tgt := 108) hx hb dX12_canBegin_104 (by decide) ?_
              refine W.widen (k := 0) (n := 0) (by decide +kernel) (by decide +kernel) ?_
              have e9 : fT (fT vi 21 (vi 21)) 22 (vi 22) = vi := (fT_id _ _ (fT_ne _ _ (Nat.ne_of_beq_eq_false rfl))).trans (fT_id _ _ (rfl))
              have hP := wr_Pi e9 hP
              have hD := wr_Di e9 hD
              clear e9
              exact W.zret (v := 1) hx hb hr rfl (fun t9_ ht hW => ⟨⟨1, ((vi 21), (vi 22)), rfl, by (try dsimp only); exact Or.inl ⟨rfl, i32z (by omega), (hzq.resolve_right (fun h => c_50 h.1)).2, fun _ => by first | exact Or.inl ⟨kx69, f69_0, f69_1⟩ | exact Or.inr ⟨kx78, f78_0, f78_1, f78_2, f81_1_0⟩⟩, by rw [ht]; exact hP, hD⟩, hS.F ht⟩) hS.2.2 dX12_canBegin_108
          · have t_73 : ((kx69 : Nat) : Int) = -1 := toI_nne c_73 (nI_toInt (by omega)) (by decide)
            refine lv_aload_n hx hb dX12_canBegin_76 rfl (lv_at hl 1 rfl) ?_
            refine lv_aload_n hx hb dX12_canBegin_77 rfl (lv_at hl 1 rfl) ?_
            have hFc := allFree hD hS hA
            refine va_calli (va_runV (As := []) (rest := [.ref h0]) ⟨hx, hb, hml, hown, hts⟩ (r_X12_declaredf l dC dI a k h0 vi vj vF vG an fn nm ha0 hfr (by first | with_reducible assumption | decide | omega | rfl | assumption) (by first | with_reducible assumption | decide | omega | rfl | assumption) hnm (by first | with_reducible assumption | decide | omega | rfl | assumption) (by first | with_reducible assumption | decide | omega | rfl | assumption) H.size) (cwV 0 hts gwsRX12_canBegin_3 rfl rfl rfl hd_yX12_declared_RX12 (by decide +kernel)) (fz_pre (va_recv hK hP (ci := 12) (q0 := 0) rfl rfl) hP hK hD) rfl rfl hl.1 rfl (lv_room (Nat.le_of_ble_eq_true rfl)) dX12_canBegin_78 (by decide +kernel)) hS (fun q _ h => hFc q h) hFc (fun r78_1 kx78_1 t9_ H locs ht hvm hw9 hB9 hz1 hk1 hS => ?_)
            have hP : va_P (dC, dI) vwCl (WR a k h0 vi vj vF vG) H := fz_P ht hB9.1
            have hD := fz_sd hP (hB9.2.weaken (fun _ q _ h => hFc q.1 h)) rfl
            rcases hw9 with ⟨rfl, f78_1_0⟩ | ⟨rfl, f78_1_0, f78_1_1, f78_1_2⟩
            · have f78_1_0 : ∀ k, k < nm → ¬ SmW (vF 9) (vF 11) (vF 12) fn an k := f78_1_0
              have hFc := allFree hD hS hA
              refine va_calli (va_runV (As := [.int (-1)]) (rest := []) ⟨hx, hb, hml, hown, hts⟩ (r_X12_isNodeb l dC dI a k h0 vi vj vF vG H.size) (cwV 1 hts gwsRX12_canBegin_4 rfl rfl rfl hd_yX12_isNode_RX12 (by decide +kernel)) (fz_pre (va_recv hK hP (ci := 12) (q0 := 0) rfl rfl) hP hK hD) rfl rfl hl.1 rfl (lv_room (Nat.le_of_ble_eq_true rfl)) dX12_canBegin_81 (by decide +kernel)) hS (fun q _ h => hFc q h) hFc (fun r81_2 u t9_ H locs ht hvm hw9 hB9 hz1 hk1 hS => ?_)
              have hP : va_P (dC, dI) vwCl (WR a k h0 vi vj vF vG) H := fz_P ht hB9.1
              have hD := fz_sd hP (hB9.2.weaken (fun _ q _ h => hFc q.1 h)) rfl
              obtain rfl := hw9
              refine lv_if_ne (tgt := 96) hx hb dX12_canBegin_84 (by decide) (fun c9 => absurd c9 (by decide)) (fun _ => ?_)
              refine lv_aload_n hx hb dX12_canBegin_87 rfl (lv_at hl 1 rfl) ?_
              refine lv_iconst (v := 3) hx hb dX12_canBegin_88 (by decide) ?_
              refine lv_aload_n hx hb dX12_canBegin_89 rfl (lv_at hl 1 rfl) ?_
              refine va_get (D := (dC, dI)) (ci := 12) (v := .int (vi 19)) (C := RX12) (T := TX12) (N := 163) (fs := fM (vS a vi vj)) hx hb hts iwsRX12_canBegin_in12 hown hK hP 0 rfl rfl 19 (by decide) (hts _ hm_r_X12_canBegin_2) (fun _ h9 => h9) rfl dX12_canBegin_90 ?_
              refine lv_topi (fun y3 hy3 => ?_)
              obtain rfl : (nI fn) = y3 := (hy3.trans (hfr)).symm
              have hFc := allFree hD hS hA
              refine va_callv (va_runV (As := [.int 3, .int (nI fn)]) (rest := []) ⟨hx, hb, hml, hown, hts⟩ (r_X12_faultAt l dC dI a k h0 vi vj vF vG 3 (nI fn) (by first | with_reducible assumption | decide | omega | rfl | assumption) H.size) (cwV 2 hts gwsRX12_canBegin_5 rfl rfl rfl hd_yX12_faultAt_RX12 (by decide +kernel)) (fz_pre (va_recv hK hP (ci := 12) (q0 := 0) rfl rfl) hP hK hD) rfl rfl hl.1 rfl (lv_room (Nat.le_of_ble_eq_true rfl)) dX12_canBegin_93 (by decide +kernel)) hS (fun q _ h => hFc q h) hFc (fun u t9_ H locs ht hvm hw9 hB9 hz1 hk1 hS => ?_)
              revert u hw9 hB9
              refine fz_p2 ?_
              intro s293_2 p293_2 hw9 hB9
              try dsimp only at hw9 hB9
              have hP : va_P (dC, dI) vwCl (WR a k h0 (fT (fT vi 21 s293_2) 22 p293_2) vj vF vG) H := fz_P ht hB9.1
              have hD := fz_sd hP (hB9.2.weaken (fun _ q _ h => hFc q.1 h)) rfl
              revert hw9
              refine fz_a2 ?_
              intro f93_2_0 f93_2_1
              have f93_2_0 : (0 < (vi 21).toInt ∧ s293_2 = (vi 21) ∧ p293_2 = (vi 22)) ∨ (¬ 0 < (vi 21).toInt ∧ s293_2 = 3 ∧ p293_2 = (nI fn)) := f93_2_0
              refine lv_aload_n hx hb dX12_canBegin_96 rfl (lv_at hl 1 rfl) ?_
              refine va_get (D := (dC, dI)) (ci := 12) (v := .int s293_2) (C := RX12) (T := TX12) (N := 163) (fs := fM (vS a (fT (fT vi 21 s293_2) 22 p293_2) vj)) hx hb hts iwsRX12_canBegin_in12 hown hK hP 0 rfl rfl 21 (by decide) (hts _ hm_r_X12_canBegin_1) (fun _ h9 => h9) rfl dX12_canBegin_97 ?_
              refine lv_if_ne (tgt := 107) hx hb dX12_canBegin_100 (by decide) (fun c_100 => ?_) (fun c9 => False.elim (by have t9 : (s293_2).toInt = 0 := toI_nne c9 rfl (by decide); omega))
              have t_100 : (s293_2).toInt ≠ 0 := toI_ne c_100 rfl (by decide)
              refine lv_iconst (v := 0) hx hb dX12_canBegin_107 (by decide) ?_
              refine W.widen (k := 0) (n := 0) (by decide +kernel) (by decide +kernel) ?_
              exact W.zret (v := 0) hx hb hr rfl (fun t9_ ht hW => ⟨⟨0, (s293_2, p293_2), rfl, by (try dsimp only); exact Or.inr ⟨rfl, by omega⟩, by rw [ht]; exact hP, hD⟩, hS.F ht⟩) hS.2.2 dX12_canBegin_108
            · have f78_1_1 : SmW (vF 9) (vF 11) (vF 12) fn an kx78_1 := f78_1_1
              have f78_1_2 : ∀ k, k < kx78_1 → ¬ SmW (vF 9) (vF 11) (vF 12) fn an k := f78_1_2
              have hFc := allFree hD hS hA
              refine va_calli (va_runV (As := [.int (nI kx78_1)]) (rest := []) ⟨hx, hb, hml, hown, hts⟩ (r_X12_isNodea l dC dI a k h0 vi vj vF vG kx78_1 (by first | with_reducible assumption | decide | omega | rfl | assumption) H.size) (cwV 1 hts gwsRX12_canBegin_6 rfl rfl rfl hd_yX12_isNode_RX12 (by decide +kernel)) (fz_pre (va_recv hK hP (ci := 12) (q0 := 0) rfl rfl) hP hK hD) rfl rfl hl.1 rfl (lv_room (Nat.le_of_ble_eq_true rfl)) dX12_canBegin_81 (by decide +kernel)) hS (fun q _ h => hFc q h) hFc (fun r81_3 u t9_ H locs ht hvm hw9 hB9 hz1 hk1 hS => ?_)
              have hP : va_P (dC, dI) vwCl (WR a k h0 vi vj vF vG) H := fz_P ht hB9.1
              have hD := fz_sd hP (hB9.2.weaken (fun _ q _ h => hFc q.1 h)) rfl
              rcases hw9 with ⟨rfl, f81_3_0⟩ | ⟨rfl, f81_3_0⟩
              · have f81_3_0 : (vF 10) kx78_1 = 2 ∨ (vF 10) kx78_1 = 3 := f81_3_0
                refine lv_if_ne (tgt := 96) hx hb dX12_canBegin_84 (by decide) (fun _ => ?_) (fun c9 => absurd c9 (by decide))
                refine lv_aload_n hx hb dX12_canBegin_96 rfl (lv_at hl 1 rfl) ?_
                refine va_get (D := (dC, dI)) (ci := 12) (v := .int (vi 21)) (C := RX12) (T := TX12) (N := 163) (fs := fM (vS a vi vj)) hx hb hts iwsRX12_canBegin_in12 hown hK hP 0 rfl rfl 21 (by decide) (hts _ hm_r_X12_canBegin_1) (fun _ h9 => h9) rfl dX12_canBegin_97 ?_
                refine lv_if_ne (tgt := 107) hx hb dX12_canBegin_100 (by decide) (fun c_100 => ?_) (fun c_100 => ?_)
                · have t_100 : ((vi 21)).toInt ≠ 0 := toI_ne c_100 rfl (by decide)
                  refine lv_iconst (v := 0) hx hb dX12_canBegin_107 (by decide) ?_
                  refine W.widen (k := 0) (n := 0) (by decide +kernel) (by decide +kernel) ?_
                  have e9 : fT (fT vi 21 (vi 21)) 22 (vi 22) = vi := (fT_id _ _ (fT_ne _ _ (Nat.ne_of_beq_eq_false rfl))).trans (fT_id _ _ (rfl))
                  have hP := wr_Pi e9 hP
                  have hD := wr_Di e9 hD
                  clear e9
                  exact W.zret (v := 0) hx hb hr rfl (fun t9_ ht hW => ⟨⟨0, ((vi 21), (vi 22)), rfl, by (try dsimp only); exact Or.inr ⟨rfl, by omega⟩, by rw [ht]; exact hP, hD⟩, hS.F ht⟩) hS.2.2 dX12_canBegin_108
                · have t_100 : ((vi 21)).toInt = 0 := toI_nne c_100 rfl (by decide)
                  refine lv_iconst (v := 1) hx hb dX12_canBegin_103 (by decide) ?_
                  refine lv_goto (tgt := 108) hx hb dX12_canBegin_104 (by decide) ?_
                  refine W.widen (k := 0) (n := 0) (by decide +kernel) (by decide +kernel) ?_
                  have e9 : fT (fT vi 21 (vi 21)) 22 (vi 22) = vi := (fT_id _ _ (fT_ne _ _ (Nat.ne_of_beq_eq_false rfl))).trans (fT_id _ _ (rfl))
                  have hP := wr_Pi e9 hP
                  have hD := wr_Di e9 hD
                  clear e9
                  exact W.zret (v := 1) hx hb hr rfl (fun t9_ ht hW => ⟨⟨1, ((vi 21), (vi 22)), rfl, by (try dsimp only); exact Or.inl ⟨rfl, i32z (by omega), (hzq.resolve_right (fun h => c_50 h.1)).2, fun _ => by first | exact Or.inl ⟨kx69, f69_0, f69_1⟩ | exact Or.inr ⟨kx78_1, f78_1_0, f78_1_1, f78_1_2, f81_3_0⟩⟩, by rw [ht]; exact hP, hD⟩, hS.F ht⟩) hS.2.2 dX12_canBegin_108
              · have f81_3_0 : ¬ ((vF 10) kx78_1 = 2 ∨ (vF 10) kx78_1 = 3) := f81_3_0
                refine lv_if_ne (tgt := 96) hx hb dX12_canBegin_84 (by decide) (fun c9 => absurd c9 (by decide)) (fun _ => ?_)
                refine lv_aload_n hx hb dX12_canBegin_87 rfl (lv_at hl 1 rfl) ?_
                refine lv_iconst (v := 3) hx hb dX12_canBegin_88 (by decide) ?_
                refine lv_aload_n hx hb dX12_canBegin_89 rfl (lv_at hl 1 rfl) ?_
                refine va_get (D := (dC, dI)) (ci := 12) (v := .int (vi 19)) (C := RX12) (T := TX12) (N := 163) (fs := fM (vS a vi vj)) hx hb hts iwsRX12_canBegin_in12 hown hK hP 0 rfl rfl 19 (by decide) (hts _ hm_r_X12_canBegin_2) (fun _ h9 => h9) rfl dX12_canBegin_90 ?_
                refine lv_topi (fun y4 hy4 => ?_)
                obtain rfl : (nI fn) = y4 := (hy4.trans (hfr)).symm
                have hFc := allFree hD hS hA
                refine va_callv (va_runV (As := [.int 3, .int (nI fn)]) (rest := []) ⟨hx, hb, hml, hown, hts⟩ (r_X12_faultAt l dC dI a k h0 vi vj vF vG 3 (nI fn) (by first | with_reducible assumption | decide | omega | rfl | assumption) H.size) (cwV 2 hts gwsRX12_canBegin_5 rfl rfl rfl hd_yX12_faultAt_RX12 (by decide +kernel)) (fz_pre (va_recv hK hP (ci := 12) (q0 := 0) rfl rfl) hP hK hD) rfl rfl hl.1 rfl (lv_room (Nat.le_of_ble_eq_true rfl)) dX12_canBegin_93 (by decide +kernel)) hS (fun q _ h => hFc q h) hFc (fun u t9_ H locs ht hvm hw9 hB9 hz1 hk1 hS => ?_)
                revert u hw9 hB9
                refine fz_p2 ?_
                intro s293_3 p293_3 hw9 hB9
                try dsimp only at hw9 hB9
                have hP : va_P (dC, dI) vwCl (WR a k h0 (fT (fT vi 21 s293_3) 22 p293_3) vj vF vG) H := fz_P ht hB9.1
                have hD := fz_sd hP (hB9.2.weaken (fun _ q _ h => hFc q.1 h)) rfl
                revert hw9
                refine fz_a2 ?_
                intro f93_3_0 f93_3_1
                have f93_3_0 : (0 < (vi 21).toInt ∧ s293_3 = (vi 21) ∧ p293_3 = (vi 22)) ∨ (¬ 0 < (vi 21).toInt ∧ s293_3 = 3 ∧ p293_3 = (nI fn)) := f93_3_0
                refine lv_aload_n hx hb dX12_canBegin_96 rfl (lv_at hl 1 rfl) ?_
                refine va_get (D := (dC, dI)) (ci := 12) (v := .int s293_3) (C := RX12) (T := TX12) (N := 163) (fs := fM (vS a (fT (fT vi 21 s293_3) 22 p293_3) vj)) hx hb hts iwsRX12_canBegin_in12 hown hK hP 0 rfl rfl 21 (by decide) (hts _ hm_r_X12_canBegin_1) (fun _ h9 => h9) rfl dX12_canBegin_97 ?_
                refine lv_if_ne (tgt := 107) hx hb dX12_canBegin_100 (by decide) (fun c_100 => ?_) (fun c9 => False.elim (by have t9 : (s293_3).toInt = 0 := toI_nne c9 rfl (by decide); omega))
                have t_100 : (s293_3).toInt ≠ 0 := toI_ne c_100 rfl (by decide)
                refine lv_iconst (v := 0) hx hb dX12_canBegin_107 (by decide) ?_
                refine W.widen (k := 0) (n := 0) (by decide +kernel) (by decide +kernel) ?_
                exact W.zret (v := 0) hx hb hr rfl (fun t9_ ht hW => ⟨⟨0, (s293_3, p293_3), rfl, by (try dsimp only); exact Or.inr ⟨rfl, by omega⟩, by rw [ht]; exact hP, hD⟩, hS.F ht⟩) hS.2.2 dX12_canBegin_108
    · have t_50 : (zq).toInt = 0 := toI_nne c_50 rfl (by decide)
      refine lv_aload_n hx hb dX12_canBegin_53 rfl (lv_at hl 1 rfl) ?_
      have hFc := allFree hD hS hA
      refine va_callv (va_runV (As := []) (rest := []) ⟨hx, hb, hml, hown, hts⟩ (r_X12_wrong l dC dI a k h0 vi vj vF vG H.size) (cwV 0 hts gwsRX12_canBegin_7 rfl rfl rfl hd_yX12_wrong_RX12 (by decide +kernel)) (fz_pre (va_recv hK hP (ci := 12) (q0 := 0) rfl rfl) hP hK hD) rfl rfl hl.1 rfl (lv_room (Nat.le_of_ble_eq_true rfl)) dX12_canBegin_54 (by decide +kernel)) hS (fun q _ h => hFc q h) hFc (fun u t9_ H locs ht hvm hw9 hB9 hz1 hk1 hS => ?_)
      revert u hw9 hB9
      refine fz_p2 ?_
      intro s254 p254 hw9 hB9
      try dsimp only at hw9 hB9
      have hP : va_P (dC, dI) vwCl (WR a k h0 (fT (fT vi 21 s254) 22 p254) vj vF vG) H := fz_P ht hB9.1
      have hD := fz_sd hP (hB9.2.weaken (fun _ q _ h => hFc q.1 h)) rfl
      revert hw9
      refine fz_a2 ?_
      intro f54_0 f54_1
      have f54_0 : (0 < (vi 21).toInt ∧ s254 = (vi 21) ∧ p254 = (vi 22)) ∨ (¬ 0 < (vi 21).toInt ∧ (s254 = 1 ∨ s254 = 2) ∧ p254 = (vi 19)) := f54_0
      refine lv_goto (tgt := 96) hx hb dX12_canBegin_57 (by decide) ?_
      refine lv_aload_n hx hb dX12_canBegin_96 rfl (lv_at hl 1 rfl) ?_
      refine va_get (D := (dC, dI)) (ci := 12) (v := .int s254) (C := RX12) (T := TX12) (N := 163) (fs := fM (vS a (fT (fT vi 21 s254) 22 p254) vj)) hx hb hts iwsRX12_canBegin_in12 hown hK hP 0 rfl rfl 21 (by decide) (hts _ hm_r_X12_canBegin_1) (fun _ h9 => h9) rfl dX12_canBegin_97 ?_
      refine lv_if_ne (tgt := 107) hx hb dX12_canBegin_100 (by decide) (fun c_100 => ?_) (fun c9 => False.elim (by have t9 : (s254).toInt = 0 := toI_nne c9 rfl (by decide); omega))
      have t_100 : (s254).toInt ≠ 0 := toI_ne c_100 rfl (by decide)
      refine lv_iconst (v := 0) hx hb dX12_canBegin_107 (by decide) ?_
      refine W.widen (k := 0) (n := 0) (by decide +kernel) (by decide +kernel) ?_
      exact W.zret (v := 0) hx hb hr rfl (fun t9_ ht hW => ⟨⟨0, (s254, p254), rfl, by (try dsimp only); exact Or.inr ⟨rfl, by omega⟩, by rw [ht]; exact hP, hD⟩, hS.F ht⟩) hS.2.2 dX12_canBegin_108
end

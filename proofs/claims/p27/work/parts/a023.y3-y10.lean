section
/-- what holds between two calls of the law: j calls are done -/
def LwI (dC : Nat → ClassId) (dI : Nat → Nat → Nat) (kX : Nat → ClassId) (kT : Nat → ClassId) (kM : Nat → ClassId) (kV : Nat → ClassId) (kC : Nat → ClassId) (kN : Nat → ClassId) (kJ : Nat → ClassId) (kL : Nat → ClassId) (kF : Nat → ClassId) (kO : Nat → ClassId) (kQ : Nat → ClassId) (kG : Nat → ClassId) (kw : ClassId) (kv : Nat → ClassId) (kR : ClassId) (A : Nat → Prop) (s : State) (h1 h2 o j : Nat) (H : Heap) (locs : List Loc) : Prop := ∃ (T : TT) (th : Int32) (Fc Fs : Nat) (w v : va_W) (g : Nat → Int64), ClsI kX kT kM kV kC kN kJ kL kF kO kQ kG kw h1 (((T.1 : Nat) : Int), T.2) Fc Fs w ∧ RefI kv h2 T th v ∧ T.1 ≤ 20 * j ∧ va_P (dC, dI) vwCl ((o, .inl (kR, 1, .inr (.inl g))) :: (w ++ v)) H ∧ va_D A ((o, .inl (kR, 1, .inr (.inl g))) :: (w ++ v)) ∧ va_S A s.heap H locs ∧ H.size ≤ s.heap.size + (Fc + 1000 * j + 125) ∧ nS s.heap.size H ≤ Fs + 9000 * j + 181434
/-- what the law has about it -/
def LwC (dC : Nat → ClassId) (dI : Nat → Nat → Nat) (kX : Nat → ClassId) (kT : Nat → ClassId) (kM : Nat → ClassId) (kV : Nat → ClassId) (kC : Nat → ClassId) (kN : Nat → ClassId) (kJ : Nat → ClassId) (kL : Nat → ClassId) (kF : Nat → ClassId) (kO : Nat → ClassId) (kQ : Nat → ClassId) (kG : Nat → ClassId) (kw : ClassId) (kv : Nat → ClassId) (kR : ClassId) (A : Nat → Prop) (s : State) : Prop := (∀ q : Nat, s.heap.size ≤ q → A q) ∧ (∀ q : Nat, A q → s.heap.size ≤ q) ∧ CE A s s.heap ∧ StrA A s s.heap ∧ NcE s ∧ va_K (dC, dI) vwCl (tX kX ++ (tT kT ++ (tM kM ++ (tV kV ++ (tC kC ++ (tN kN ++ (tJ kJ ++ (tL kL ++ (tF kF ++ (tO kO ++ (tQ kQ ++ (tG kG ++ (tW kw))))))))))))) s ∧ va_K (dC, dI) vwCl (tX12 kv) s ∧ va_K (dC, dI) vwCl [(kR, .long)] s
theorem ValO.bd {kV : Nat → ClassId} {n : Nat} {z : VlD} {o : Value} {w : va_W} (h : ValO kV n z o w) : n ≤ 20000 := by
  rcases h with ⟨_, _, rfl, _⟩ | h
  · exact Nat.zero_le _
  · exact h.elim (fun hV h => h.elim (fun aV h => h.elim (fun iV_holders h => h.elim (fun iV_rules h => h.elim (fun fV_pairs h => h.elim (fun fV_domain h => h.elim (fun fV_kind h => h.elim (fun fV_a h => h.elim (fun fV_b h => h.elim (fun fV_c h => h.elim (fun fV_rulePairs h => h.elim (fun fV_lastHolder h => h.elim (fun fV_now h => h.elim (fun iV_doneFor h => h.elim (fun iV_changed h => h.elim (fun gV_fore h => h.elim (fun gV_back h => h.elim (fun fV_together h => h.elim (fun fV_member h => h.elim (fun gV_list h => h.elim (fun dV_list h => h.elim (fun iV_listed h => h.elim (fun iV_listDone h => (h.2.2.2.2.2.1).2)))))))))))))))))))))))
theorem RdrO.bd {kJ kL kF : Nat → ClassId} {hT hM : Nat → Nat} {n n2 : Nat} {o : Value} {w : va_W} (h : RdrO kJ kL kF hT hM n n2 o w) : n ≤ 72200 ∧ n2 ≤ 2560 := by
  rcases h with ⟨_, _, rfl, rfl⟩ | h
  · exact ⟨Nat.zero_le _, Nat.zero_le _⟩
  · exact h.elim (fun hJ h => h.elim (fun aJ h => h.elim (fun hL h => h.elim (fun iJ_used h => h.elim (fun iJ_depth h => h.elim (fun jJ_ownName h => h.elim (fun gJ_binder h => h.elim (fun iJ_binders h => h.elim (fun iJ_firstSet h => h.elim (fun iJ_secondSet h => h.elim (fun aL h => h.elim (fun xL_tree h => h.elim (fun iL_names h => h.elim (fun gL_key h => h.elim (fun fL_kind h => h.elim (fun fL_one h => h.elim (fun fL_two h => h.elim (fun fL_base h => h.elim (fun iL_params h => h.elim (fun fL_paramOver h => h.elim (fun dL_paramOver h => h.elim (fun fL_paramUnder h => h.elim (fun dL_paramUnder h => h.elim (fun nL_pu h => h.elim (fun gL_over h => h.elim (fun gL_under h => h.elim (fun fL_bound h => h.elim (fun iL_nameAt h => h.elim (fun iL_startAt h => h.elim (fun iL_steps h => h.elim (fun jL_scaleOver h => h.elim (fun jL_scaleUnder h => h.elim (fun hF h => h.elim (fun aF h => h.elim (fun dF_tree h => h.elim (fun fF_tree h => ⟨(h.2.2.2.2.2.2.2.2.2.2.2.2.2.2.1).2, (h.2.2.2.2.2.2.2.2.2.2.1).2⟩))))))))))))))))))))))))))))))))))))
set_option maxRecDepth 100000 in
theorem ClsI.bd {kX : Nat → ClassId} {kT : Nat → ClassId} {kM : Nat → ClassId} {kV : Nat → ClassId} {kC : Nat → ClassId} {kN : Nat → ClassId} {kJ : Nat → ClassId} {kL : Nat → ClassId} {kF : Nat → ClassId} {kO : Nat → ClassId} {kQ : Nat → ClassId} {kG : Nat → ClassId} {kw : ClassId} {q : Nat} {L : LT} {Fc Fs : Nat} {w : va_W} (h : ClsI kX kT kM kV kC kN kJ kL kF kO kQ kG kw q L Fc Fs w) : Fc ≤ 65200 ∧ Fs ≤ 960000 := by
  refine ClsI_z (P := fun _ _ Fc Fs _ => Fc ≤ 65200 ∧ Fs ≤ 960000) ?_ h
  intro hX aX hT hM fX_ready fX_sheet dX_sheet nX_sheet iX_sheetLength xX_reader xX_solver xX_prover xX_values xX_clauses xX_nets aT fT_tape dT_tape nT_tape iT_length iT_fault iT_place iT_kind iT_at iT_number jT_name iT_next aM iM_stands iM_variables iM_rows iM_goals iM_differents iM_cases fM_from fM_to fM_whole fM_ways iM_plainRows fM_plainRow fM_kept fM_goalOver fM_goalUnder fM_goalMax fM_different wR wS wV wC wN nF nP nV gR gV qN qC qV b_fX_sheet b_nX_sheet b_iX_sheetLength b_shl b_fT_tape b_nT_tape b_iT_length b_iT_at b_iT_number b_iT_next b_len b_iM_stands b_iM_variables b_iM_rows b_iM_goals b_iM_differents b_iM_cases b_fM_ways b_iM_plainRows b_fM_plainRow b_pr hRd hSo hVa hCl hNe hgR hgV
  have h1 := hVa.bd
  have h2 := hRd.bd
  have h3 : gR ≤ 1 := by rcases hgR with h | h <;> omega
  have h4 : gV ≤ 1 := by rcases hgV with h | h <;> omega
  obtain ⟨h5, h6⟩ := b_nX_sheet
  obtain ⟨h7, h8⟩ := b_nT_tape
  clear hgR hgV b_fX_sheet b_iX_sheetLength b_shl b_fT_tape b_iT_length b_iT_at b_iT_number b_iT_next b_len b_iM_stands b_iM_variables b_iM_rows b_iM_goals b_iM_differents b_iM_cases b_fM_ways b_iM_plainRows b_fM_plainRow b_pr
  constructor <;> omega
end
section
theorem dL_law_212 : decode cL_law 212 = .ok (.aload_n 1, 1) := dk_43 (by decide +kernel)
theorem dL_law_213 : decode cL_law 213 = .ok (.aload_n 0, 1) := dk_42 (by decide +kernel)
theorem dL_law_214 : decode cL_law 214 = .ok (.iload 4, 2) := dk_21 (by decide +kernel)
theorem dL_law_216 : decode cL_law 216 = .ok (.iconst 1, 1) := dk_4 (by decide +kernel)
theorem dL_law_217 : decode cL_law 217 = .ok (.iadd, 1) := dk_96 (by decide +kernel)
theorem dL_law_218 : decode cL_law 218 = .ok (.iaload, 1) := dk_46 (by decide +kernel)
theorem dL_law_219 : decode cL_law 219 = .ok (.aload_n 0, 1) := dk_42 (by decide +kernel)
theorem dL_law_220 : decode cL_law 220 = .ok (.iload 4, 2) := dk_21 (by decide +kernel)
theorem dL_law_222 : decode cL_law 222 = .ok (.iconst 2, 1) := dk_5 (by decide +kernel)
theorem dL_law_223 : decode cL_law 223 = .ok (.iadd, 1) := dk_96 (by decide +kernel)
theorem dL_law_224 : decode cL_law 224 = .ok (.iaload, 1) := dk_46 (by decide +kernel)
theorem dL_law_225 : decode cL_law 225 = .ok (.aload_n 0, 1) := dk_42 (by decide +kernel)
theorem dL_law_226 : decode cL_law 226 = .ok (.iload 4, 2) := dk_21 (by decide +kernel)
theorem dL_law_228 : decode cL_law 228 = .ok (.iconst 3, 1) := dk_6 (by decide +kernel)
theorem dL_law_229 : decode cL_law 229 = .ok (.iadd, 1) := dk_96 (by decide +kernel)
theorem dL_law_230 : decode cL_law 230 = .ok (.iaload, 1) := dk_46 (by decide +kernel)
theorem dL_law_231 : decode cL_law 231 = .ok (.aload_n 0, 1) := dk_42 (by decide +kernel)
theorem dL_law_232 : decode cL_law 232 = .ok (.iload 4, 2) := dk_21 (by decide +kernel)
theorem dL_law_234 : decode cL_law 234 = .ok (.iconst 4, 1) := dk_7 (by decide +kernel)
theorem dL_law_235 : decode cL_law 235 = .ok (.iadd, 1) := dk_96 (by decide +kernel)
theorem dL_law_236 : decode cL_law 236 = .ok (.iaload, 1) := dk_46 (by decide +kernel)
theorem dL_law_237 : decode cL_law 237 = .ok (.aload_n 0, 1) := dk_42 (by decide +kernel)
theorem dL_law_238 : decode cL_law 238 = .ok (.iload 4, 2) := dk_21 (by decide +kernel)
theorem dL_law_240 : decode cL_law 240 = .ok (.iconst 5, 1) := dk_8 (by decide +kernel)
theorem dL_law_241 : decode cL_law 241 = .ok (.iadd, 1) := dk_96 (by decide +kernel)
theorem dL_law_242 : decode cL_law 242 = .ok (.iaload, 1) := dk_46 (by decide +kernel)
theorem dL_law_243 : decode cL_law 243 = .ok (.invokevirtual 92, 3) := dk_182 (by decide +kernel)
theorem dL_law_246 : decode cL_law 246 = .ok (.aload_n 2, 1) := dk_44 (by decide +kernel)
theorem dL_law_247 : decode cL_law 247 = .ok (.aload_n 0, 1) := dk_42 (by decide +kernel)
theorem dL_law_248 : decode cL_law 248 = .ok (.iload 4, 2) := dk_21 (by decide +kernel)
theorem dL_law_250 : decode cL_law 250 = .ok (.iconst 1, 1) := dk_4 (by decide +kernel)
theorem dL_law_251 : decode cL_law 251 = .ok (.iadd, 1) := dk_96 (by decide +kernel)
theorem dL_law_252 : decode cL_law 252 = .ok (.iaload, 1) := dk_46 (by decide +kernel)
theorem dL_law_253 : decode cL_law 253 = .ok (.aload_n 0, 1) := dk_42 (by decide +kernel)
theorem dL_law_254 : decode cL_law 254 = .ok (.iload 4, 2) := dk_21 (by decide +kernel)
theorem dL_law_256 : decode cL_law 256 = .ok (.iconst 2, 1) := dk_5 (by decide +kernel)
theorem dL_law_257 : decode cL_law 257 = .ok (.iadd, 1) := dk_96 (by decide +kernel)
theorem dL_law_258 : decode cL_law 258 = .ok (.iaload, 1) := dk_46 (by decide +kernel)
theorem dL_law_259 : decode cL_law 259 = .ok (.aload_n 0, 1) := dk_42 (by decide +kernel)
theorem dL_law_260 : decode cL_law 260 = .ok (.iload 4, 2) := dk_21 (by decide +kernel)
theorem dL_law_262 : decode cL_law 262 = .ok (.iconst 3, 1) := dk_6 (by decide +kernel)
theorem dL_law_263 : decode cL_law 263 = .ok (.iadd, 1) := dk_96 (by decide +kernel)
theorem dL_law_264 : decode cL_law 264 = .ok (.iaload, 1) := dk_46 (by decide +kernel)
theorem dL_law_265 : decode cL_law 265 = .ok (.aload_n 0, 1) := dk_42 (by decide +kernel)
theorem dL_law_266 : decode cL_law 266 = .ok (.iload 4, 2) := dk_21 (by decide +kernel)
theorem dL_law_268 : decode cL_law 268 = .ok (.iconst 4, 1) := dk_7 (by decide +kernel)
theorem dL_law_269 : decode cL_law 269 = .ok (.iadd, 1) := dk_96 (by decide +kernel)
theorem dL_law_270 : decode cL_law 270 = .ok (.iaload, 1) := dk_46 (by decide +kernel)
theorem dL_law_271 : decode cL_law 271 = .ok (.aload_n 0, 1) := dk_42 (by decide +kernel)
theorem dL_law_272 : decode cL_law 272 = .ok (.iload 4, 2) := dk_21 (by decide +kernel)
theorem dL_law_274 : decode cL_law 274 = .ok (.iconst 5, 1) := dk_8 (by decide +kernel)
theorem dL_law_275 : decode cL_law 275 = .ok (.iadd, 1) := dk_96 (by decide +kernel)
theorem dL_law_276 : decode cL_law 276 = .ok (.iaload, 1) := dk_46 (by decide +kernel)
theorem dL_law_277 : decode cL_law 277 = .ok (.invokevirtual 96, 3) := dk_182 (by decide +kernel)
theorem dL_law_280 : decode cL_law 280 = .ok (.goto 1227, 3) := dk_167 (by decide +kernel)
theorem dL_law_283 : decode cL_law 283 = .ok (.aload_n 1, 1) := dk_43 (by decide +kernel)
theorem dL_law_284 : decode cL_law 284 = .ok (.aload_n 0, 1) := dk_42 (by decide +kernel)
theorem dL_law_285 : decode cL_law 285 = .ok (.iload 4, 2) := dk_21 (by decide +kernel)
theorem dL_law_287 : decode cL_law 287 = .ok (.iconst 1, 1) := dk_4 (by decide +kernel)
theorem dL_law_288 : decode cL_law 288 = .ok (.iadd, 1) := dk_96 (by decide +kernel)
theorem dL_law_289 : decode cL_law 289 = .ok (.iaload, 1) := dk_46 (by decide +kernel)
theorem dL_law_290 : decode cL_law 290 = .ok (.invokevirtual 97, 3) := dk_182 (by decide +kernel)
theorem dL_law_293 : decode cL_law 293 = .ok (.pop, 1) := dk_87 (by decide +kernel)
theorem dL_law_294 : decode cL_law 294 = .ok (.aload_n 2, 1) := dk_44 (by decide +kernel)
theorem dL_law_295 : decode cL_law 295 = .ok (.aload_n 0, 1) := dk_42 (by decide +kernel)
theorem dL_law_296 : decode cL_law 296 = .ok (.iload 4, 2) := dk_21 (by decide +kernel)
theorem dL_law_298 : decode cL_law 298 = .ok (.iconst 1, 1) := dk_4 (by decide +kernel)
theorem dL_law_299 : decode cL_law 299 = .ok (.iadd, 1) := dk_96 (by decide +kernel)
theorem dL_law_300 : decode cL_law 300 = .ok (.iaload, 1) := dk_46 (by decide +kernel)
theorem dL_law_301 : decode cL_law 301 = .ok (.invokevirtual 100, 3) := dk_182 (by decide +kernel)
theorem dL_law_304 : decode cL_law 304 = .ok (.pop, 1) := dk_87 (by decide +kernel)
theorem dL_law_305 : decode cL_law 305 = .ok (.goto 1202, 3) := dk_167 (by decide +kernel)
theorem dL_law_308 : decode cL_law 308 = .ok (.aload_n 1, 1) := dk_43 (by decide +kernel)
theorem dL_law_309 : decode cL_law 309 = .ok (.invokevirtual 101, 3) := dk_182 (by decide +kernel)
theorem dL_law_312 : decode cL_law 312 = .ok (.aload_n 2, 1) := dk_44 (by decide +kernel)
theorem dL_law_313 : decode cL_law 313 = .ok (.invokevirtual 104, 3) := dk_182 (by decide +kernel)
theorem dL_law_316 : decode cL_law 316 = .ok (.goto 1191, 3) := dk_167 (by decide +kernel)
theorem dL_law_319 : decode cL_law 319 = .ok (.aload_n 1, 1) := dk_43 (by decide +kernel)
theorem dL_law_320 : decode cL_law 320 = .ok (.aload_n 3, 1) := dk_45 (by decide +kernel)
theorem dL_law_321 : decode cL_law 321 = .ok (.invokestatic 105, 3) := dk_184 (by decide +kernel)
theorem dL_law_324 : decode cL_law 324 = .ok (.istore 5, 2) := dk_54 (by decide +kernel)
theorem dL_law_326 : decode cL_law 326 = .ok (.aload_n 2, 1) := dk_44 (by decide +kernel)
theorem dL_law_327 : decode cL_law 327 = .ok (.invokevirtual 110, 3) := dk_182 (by decide +kernel)
theorem dL_law_330 : decode cL_law 330 = .ok (.istore 6, 2) := dk_54 (by decide +kernel)
theorem dL_law_332 : decode cL_law 332 = .ok (.goto 1175, 3) := dk_167 (by decide +kernel)
theorem dL_law_335 : decode cL_law 335 = .ok (.aload_n 1, 1) := dk_43 (by decide +kernel)
theorem dL_law_336 : decode cL_law 336 = .ok (.aload_n 0, 1) := dk_42 (by decide +kernel)
theorem dL_law_337 : decode cL_law 337 = .ok (.iload 4, 2) := dk_21 (by decide +kernel)
theorem dL_law_339 : decode cL_law 339 = .ok (.iconst 1, 1) := dk_4 (by decide +kernel)
theorem dL_law_340 : decode cL_law 340 = .ok (.iadd, 1) := dk_96 (by decide +kernel)
theorem dL_law_341 : decode cL_law 341 = .ok (.iaload, 1) := dk_46 (by decide +kernel)
theorem dL_law_342 : decode cL_law 342 = .ok (.invokevirtual 111, 3) := dk_182 (by decide +kernel)
theorem dL_law_345 : decode cL_law 345 = .ok (.pop, 1) := dk_87 (by decide +kernel)
theorem dL_law_346 : decode cL_law 346 = .ok (.aload_n 2, 1) := dk_44 (by decide +kernel)
theorem dL_law_347 : decode cL_law 347 = .ok (.aload_n 0, 1) := dk_42 (by decide +kernel)
theorem dL_law_348 : decode cL_law 348 = .ok (.iload 4, 2) := dk_21 (by decide +kernel)
theorem dL_law_350 : decode cL_law 350 = .ok (.iconst 1, 1) := dk_4 (by decide +kernel)
theorem dL_law_351 : decode cL_law 351 = .ok (.iadd, 1) := dk_96 (by decide +kernel)
theorem dL_law_352 : decode cL_law 352 = .ok (.iaload, 1) := dk_46 (by decide +kernel)
theorem dL_law_353 : decode cL_law 353 = .ok (.invokevirtual 114, 3) := dk_182 (by decide +kernel)
theorem dL_law_356 : decode cL_law 356 = .ok (.pop, 1) := dk_87 (by decide +kernel)
theorem dL_law_357 : decode cL_law 357 = .ok (.goto 1150, 3) := dk_167 (by decide +kernel)
theorem dL_law_360 : decode cL_law 360 = .ok (.aload_n 1, 1) := dk_43 (by decide +kernel)
theorem dL_law_361 : decode cL_law 361 = .ok (.aload_n 0, 1) := dk_42 (by decide +kernel)
theorem dL_law_362 : decode cL_law 362 = .ok (.iload 4, 2) := dk_21 (by decide +kernel)
theorem dL_law_364 : decode cL_law 364 = .ok (.iconst 1, 1) := dk_4 (by decide +kernel)
theorem dL_law_365 : decode cL_law 365 = .ok (.iadd, 1) := dk_96 (by decide +kernel)
theorem dL_law_366 : decode cL_law 366 = .ok (.iaload, 1) := dk_46 (by decide +kernel)
theorem dL_law_367 : decode cL_law 367 = .ok (.aload_n 0, 1) := dk_42 (by decide +kernel)
theorem dL_law_368 : decode cL_law 368 = .ok (.iload 4, 2) := dk_21 (by decide +kernel)
theorem dL_law_370 : decode cL_law 370 = .ok (.iconst 2, 1) := dk_5 (by decide +kernel)
theorem dL_law_371 : decode cL_law 371 = .ok (.iadd, 1) := dk_96 (by decide +kernel)
theorem dL_law_372 : decode cL_law 372 = .ok (.iaload, 1) := dk_46 (by decide +kernel)
theorem dL_law_373 : decode cL_law 373 = .ok (.aload_n 3, 1) := dk_45 (by decide +kernel)
theorem dL_law_374 : decode cL_law 374 = .ok (.invokestatic 115, 3) := dk_184 (by decide +kernel)
theorem dL_law_377 : decode cL_law 377 = .ok (.istore 5, 2) := dk_54 (by decide +kernel)
theorem dL_law_379 : decode cL_law 379 = .ok (.aload_n 2, 1) := dk_44 (by decide +kernel)
theorem dL_law_380 : decode cL_law 380 = .ok (.aload_n 0, 1) := dk_42 (by decide +kernel)
theorem dL_law_381 : decode cL_law 381 = .ok (.iload 4, 2) := dk_21 (by decide +kernel)
theorem dL_law_383 : decode cL_law 383 = .ok (.iconst 1, 1) := dk_4 (by decide +kernel)
theorem dL_law_384 : decode cL_law 384 = .ok (.iadd, 1) := dk_96 (by decide +kernel)
theorem dL_law_385 : decode cL_law 385 = .ok (.iaload, 1) := dk_46 (by decide +kernel)
theorem dL_law_386 : decode cL_law 386 = .ok (.aload_n 0, 1) := dk_42 (by decide +kernel)
theorem dL_law_387 : decode cL_law 387 = .ok (.iload 4, 2) := dk_21 (by decide +kernel)
theorem dL_law_389 : decode cL_law 389 = .ok (.iconst 2, 1) := dk_5 (by decide +kernel)
theorem dL_law_390 : decode cL_law 390 = .ok (.iadd, 1) := dk_96 (by decide +kernel)
theorem dL_law_391 : decode cL_law 391 = .ok (.iaload, 1) := dk_46 (by decide +kernel)
theorem dL_law_392 : decode cL_law 392 = .ok (.invokevirtual 118, 3) := dk_182 (by decide +kernel)
theorem dL_law_395 : decode cL_law 395 = .ok (.istore 6, 2) := dk_54 (by decide +kernel)
theorem dL_law_397 : decode cL_law 397 = .ok (.goto 1110, 3) := dk_167 (by decide +kernel)
theorem dL_law_400 : decode cL_law 400 = .ok (.aload_n 1, 1) := dk_43 (by decide +kernel)
theorem dL_law_401 : decode cL_law 401 = .ok (.aload_n 0, 1) := dk_42 (by decide +kernel)
theorem dL_law_402 : decode cL_law 402 = .ok (.iload 4, 2) := dk_21 (by decide +kernel)
theorem dL_law_404 : decode cL_law 404 = .ok (.iconst 1, 1) := dk_4 (by decide +kernel)
theorem dL_law_405 : decode cL_law 405 = .ok (.iadd, 1) := dk_96 (by decide +kernel)
theorem dL_law_406 : decode cL_law 406 = .ok (.iaload, 1) := dk_46 (by decide +kernel)
theorem dL_law_407 : decode cL_law 407 = .ok (.aload_n 0, 1) := dk_42 (by decide +kernel)
theorem dL_law_408 : decode cL_law 408 = .ok (.iload 4, 2) := dk_21 (by decide +kernel)
theorem dL_law_410 : decode cL_law 410 = .ok (.iconst 2, 1) := dk_5 (by decide +kernel)
theorem dL_law_411 : decode cL_law 411 = .ok (.iadd, 1) := dk_96 (by decide +kernel)
theorem dL_law_412 : decode cL_law 412 = .ok (.iaload, 1) := dk_46 (by decide +kernel)
theorem dL_law_413 : decode cL_law 413 = .ok (.aload_n 0, 1) := dk_42 (by decide +kernel)
theorem dL_law_414 : decode cL_law 414 = .ok (.iload 4, 2) := dk_21 (by decide +kernel)
theorem dL_law_416 : decode cL_law 416 = .ok (.iconst 3, 1) := dk_6 (by decide +kernel)
theorem dL_law_417 : decode cL_law 417 = .ok (.iadd, 1) := dk_96 (by decide +kernel)
theorem dL_law_418 : decode cL_law 418 = .ok (.iaload, 1) := dk_46 (by decide +kernel)
theorem dL_law_419 : decode cL_law 419 = .ok (.aload_n 3, 1) := dk_45 (by decide +kernel)
theorem dL_law_420 : decode cL_law 420 = .ok (.invokestatic 119, 3) := dk_184 (by decide +kernel)
theorem dL_law_423 : decode cL_law 423 = .ok (.istore 5, 2) := dk_54 (by decide +kernel)
theorem dL_law_425 : decode cL_law 425 = .ok (.aload_n 2, 1) := dk_44 (by decide +kernel)
theorem dL_law_426 : decode cL_law 426 = .ok (.aload_n 0, 1) := dk_42 (by decide +kernel)
theorem dL_law_427 : decode cL_law 427 = .ok (.iload 4, 2) := dk_21 (by decide +kernel)
theorem dL_law_429 : decode cL_law 429 = .ok (.iconst 1, 1) := dk_4 (by decide +kernel)
theorem dL_law_430 : decode cL_law 430 = .ok (.iadd, 1) := dk_96 (by decide +kernel)
theorem dL_law_431 : decode cL_law 431 = .ok (.iaload, 1) := dk_46 (by decide +kernel)
theorem dL_law_432 : decode cL_law 432 = .ok (.aload_n 0, 1) := dk_42 (by decide +kernel)
theorem dL_law_433 : decode cL_law 433 = .ok (.iload 4, 2) := dk_21 (by decide +kernel)
theorem dL_law_435 : decode cL_law 435 = .ok (.iconst 2, 1) := dk_5 (by decide +kernel)
theorem dL_law_436 : decode cL_law 436 = .ok (.iadd, 1) := dk_96 (by decide +kernel)
theorem dL_law_437 : decode cL_law 437 = .ok (.iaload, 1) := dk_46 (by decide +kernel)
theorem dL_law_438 : decode cL_law 438 = .ok (.aload_n 0, 1) := dk_42 (by decide +kernel)
theorem dL_law_439 : decode cL_law 439 = .ok (.iload 4, 2) := dk_21 (by decide +kernel)
theorem dL_law_441 : decode cL_law 441 = .ok (.iconst 3, 1) := dk_6 (by decide +kernel)
theorem dL_law_442 : decode cL_law 442 = .ok (.iadd, 1) := dk_96 (by decide +kernel)
theorem dL_law_443 : decode cL_law 443 = .ok (.iaload, 1) := dk_46 (by decide +kernel)
theorem dL_law_444 : decode cL_law 444 = .ok (.invokevirtual 122, 3) := dk_182 (by decide +kernel)
theorem dL_law_447 : decode cL_law 447 = .ok (.istore 6, 2) := dk_54 (by decide +kernel)
theorem dL_law_449 : decode cL_law 449 = .ok (.goto 1058, 3) := dk_167 (by decide +kernel)
theorem dL_law_452 : decode cL_law 452 = .ok (.aload_n 1, 1) := dk_43 (by decide +kernel)
theorem dL_law_453 : decode cL_law 453 = .ok (.aload_n 0, 1) := dk_42 (by decide +kernel)
theorem dL_law_454 : decode cL_law 454 = .ok (.iload 4, 2) := dk_21 (by decide +kernel)
theorem dL_law_456 : decode cL_law 456 = .ok (.iconst 1, 1) := dk_4 (by decide +kernel)
theorem dL_law_457 : decode cL_law 457 = .ok (.iadd, 1) := dk_96 (by decide +kernel)
theorem dL_law_458 : decode cL_law 458 = .ok (.iaload, 1) := dk_46 (by decide +kernel)
theorem dL_law_459 : decode cL_law 459 = .ok (.aload_n 0, 1) := dk_42 (by decide +kernel)
theorem dL_law_460 : decode cL_law 460 = .ok (.iload 4, 2) := dk_21 (by decide +kernel)
theorem dL_law_462 : decode cL_law 462 = .ok (.iconst 2, 1) := dk_5 (by decide +kernel)
theorem dL_law_463 : decode cL_law 463 = .ok (.iadd, 1) := dk_96 (by decide +kernel)
theorem dL_law_464 : decode cL_law 464 = .ok (.iaload, 1) := dk_46 (by decide +kernel)
theorem dL_law_465 : decode cL_law 465 = .ok (.aload_n 0, 1) := dk_42 (by decide +kernel)
theorem dL_law_466 : decode cL_law 466 = .ok (.iload 4, 2) := dk_21 (by decide +kernel)
theorem dL_law_468 : decode cL_law 468 = .ok (.iconst 3, 1) := dk_6 (by decide +kernel)
theorem dL_law_469 : decode cL_law 469 = .ok (.iadd, 1) := dk_96 (by decide +kernel)
theorem dL_law_470 : decode cL_law 470 = .ok (.iaload, 1) := dk_46 (by decide +kernel)
theorem dL_law_471 : decode cL_law 471 = .ok (.ifCond .eq 7, 3) := dk_153 (by decide +kernel)
theorem dL_law_474 : decode cL_law 474 = .ok (.iconst 1, 1) := dk_4 (by decide +kernel)
theorem dL_law_475 : decode cL_law 475 = .ok (.goto 4, 3) := dk_167 (by decide +kernel)
theorem dL_law_478 : decode cL_law 478 = .ok (.iconst 0, 1) := dk_3 (by decide +kernel)
theorem dL_law_479 : decode cL_law 479 = .ok (.aload_n 3, 1) := dk_45 (by decide +kernel)
theorem dL_law_480 : decode cL_law 480 = .ok (.invokestatic 123, 3) := dk_184 (by decide +kernel)
theorem dL_law_483 : decode cL_law 483 = .ok (.istore 5, 2) := dk_54 (by decide +kernel)
theorem dL_law_485 : decode cL_law 485 = .ok (.aload_n 2, 1) := dk_44 (by decide +kernel)
theorem dL_law_486 : decode cL_law 486 = .ok (.aload_n 0, 1) := dk_42 (by decide +kernel)
theorem dL_law_487 : decode cL_law 487 = .ok (.iload 4, 2) := dk_21 (by decide +kernel)
theorem dL_law_489 : decode cL_law 489 = .ok (.iconst 1, 1) := dk_4 (by decide +kernel)
theorem dL_law_490 : decode cL_law 490 = .ok (.iadd, 1) := dk_96 (by decide +kernel)
theorem dL_law_491 : decode cL_law 491 = .ok (.iaload, 1) := dk_46 (by decide +kernel)
theorem dL_law_492 : decode cL_law 492 = .ok (.aload_n 0, 1) := dk_42 (by decide +kernel)
theorem dL_law_493 : decode cL_law 493 = .ok (.iload 4, 2) := dk_21 (by decide +kernel)
theorem dL_law_495 : decode cL_law 495 = .ok (.iconst 2, 1) := dk_5 (by decide +kernel)
theorem dL_law_496 : decode cL_law 496 = .ok (.iadd, 1) := dk_96 (by decide +kernel)
theorem dL_law_497 : decode cL_law 497 = .ok (.iaload, 1) := dk_46 (by decide +kernel)
theorem dL_law_498 : decode cL_law 498 = .ok (.aload_n 0, 1) := dk_42 (by decide +kernel)
theorem dL_law_499 : decode cL_law 499 = .ok (.iload 4, 2) := dk_21 (by decide +kernel)
theorem dL_law_501 : decode cL_law 501 = .ok (.iconst 3, 1) := dk_6 (by decide +kernel)
theorem dL_law_502 : decode cL_law 502 = .ok (.iadd, 1) := dk_96 (by decide +kernel)
theorem dL_law_503 : decode cL_law 503 = .ok (.iaload, 1) := dk_46 (by decide +kernel)
theorem dL_law_504 : decode cL_law 504 = .ok (.ifCond .eq 7, 3) := dk_153 (by decide +kernel)
theorem dL_law_507 : decode cL_law 507 = .ok (.iconst 1, 1) := dk_4 (by decide +kernel)
theorem dL_law_508 : decode cL_law 508 = .ok (.goto 4, 3) := dk_167 (by decide +kernel)
theorem dL_law_511 : decode cL_law 511 = .ok (.iconst 0, 1) := dk_3 (by decide +kernel)
theorem dL_law_512 : decode cL_law 512 = .ok (.invokevirtual 126, 3) := dk_182 (by decide +kernel)
theorem dL_law_515 : decode cL_law 515 = .ok (.istore 6, 2) := dk_54 (by decide +kernel)
theorem dL_law_517 : decode cL_law 517 = .ok (.goto 990, 3) := dk_167 (by decide +kernel)
theorem dL_law_520 : decode cL_law 520 = .ok (.aload_n 1, 1) := dk_43 (by decide +kernel)
theorem dL_law_521 : decode cL_law 521 = .ok (.aload_n 3, 1) := dk_45 (by decide +kernel)
theorem dL_law_522 : decode cL_law 522 = .ok (.invokestatic 127, 3) := dk_184 (by decide +kernel)
theorem dL_law_525 : decode cL_law 525 = .ok (.istore 5, 2) := dk_54 (by decide +kernel)
theorem dL_law_527 : decode cL_law 527 = .ok (.aload_n 2, 1) := dk_44 (by decide +kernel)
theorem dL_law_528 : decode cL_law 528 = .ok (.invokevirtual 129, 3) := dk_182 (by decide +kernel)
theorem dL_law_531 : decode cL_law 531 = .ok (.istore 6, 2) := dk_54 (by decide +kernel)
theorem dL_law_533 : decode cL_law 533 = .ok (.goto 974, 3) := dk_167 (by decide +kernel)
theorem dL_law_536 : decode cL_law 536 = .ok (.aload_n 1, 1) := dk_43 (by decide +kernel)
theorem dL_law_537 : decode cL_law 537 = .ok (.aload_n 0, 1) := dk_42 (by decide +kernel)
theorem dL_law_538 : decode cL_law 538 = .ok (.iload 4, 2) := dk_21 (by decide +kernel)
theorem dL_law_540 : decode cL_law 540 = .ok (.iconst 1, 1) := dk_4 (by decide +kernel)
theorem dL_law_541 : decode cL_law 541 = .ok (.iadd, 1) := dk_96 (by decide +kernel)
theorem dL_law_542 : decode cL_law 542 = .ok (.iaload, 1) := dk_46 (by decide +kernel)
theorem dL_law_543 : decode cL_law 543 = .ok (.ifCond .eq 7, 3) := dk_153 (by decide +kernel)
theorem dL_law_546 : decode cL_law 546 = .ok (.iconst 1, 1) := dk_4 (by decide +kernel)
theorem dL_law_547 : decode cL_law 547 = .ok (.goto 4, 3) := dk_167 (by decide +kernel)
theorem dL_law_550 : decode cL_law 550 = .ok (.iconst 0, 1) := dk_3 (by decide +kernel)
theorem dL_law_551 : decode cL_law 551 = .ok (.aload_n 3, 1) := dk_45 (by decide +kernel)
theorem dL_law_552 : decode cL_law 552 = .ok (.invokestatic 130, 3) := dk_184 (by decide +kernel)
theorem dL_law_555 : decode cL_law 555 = .ok (.istore 5, 2) := dk_54 (by decide +kernel)
theorem dL_law_557 : decode cL_law 557 = .ok (.aload_n 2, 1) := dk_44 (by decide +kernel)
theorem dL_law_558 : decode cL_law 558 = .ok (.aload_n 0, 1) := dk_42 (by decide +kernel)
theorem dL_law_559 : decode cL_law 559 = .ok (.iload 4, 2) := dk_21 (by decide +kernel)
theorem dL_law_561 : decode cL_law 561 = .ok (.iconst 1, 1) := dk_4 (by decide +kernel)
theorem dL_law_562 : decode cL_law 562 = .ok (.iadd, 1) := dk_96 (by decide +kernel)
theorem dL_law_563 : decode cL_law 563 = .ok (.iaload, 1) := dk_46 (by decide +kernel)
theorem dL_law_564 : decode cL_law 564 = .ok (.ifCond .eq 7, 3) := dk_153 (by decide +kernel)
theorem dL_law_567 : decode cL_law 567 = .ok (.iconst 1, 1) := dk_4 (by decide +kernel)
theorem dL_law_568 : decode cL_law 568 = .ok (.goto 4, 3) := dk_167 (by decide +kernel)
theorem dL_law_571 : decode cL_law 571 = .ok (.iconst 0, 1) := dk_3 (by decide +kernel)
theorem dL_law_572 : decode cL_law 572 = .ok (.invokevirtual 133, 3) := dk_182 (by decide +kernel)
theorem dL_law_575 : decode cL_law 575 = .ok (.istore 6, 2) := dk_54 (by decide +kernel)
theorem dL_law_577 : decode cL_law 577 = .ok (.goto 930, 3) := dk_167 (by decide +kernel)
theorem dL_law_580 : decode cL_law 580 = .ok (.aload_n 1, 1) := dk_43 (by decide +kernel)
theorem dL_law_581 : decode cL_law 581 = .ok (.aload_n 0, 1) := dk_42 (by decide +kernel)
theorem dL_law_582 : decode cL_law 582 = .ok (.iload 4, 2) := dk_21 (by decide +kernel)
theorem dL_law_584 : decode cL_law 584 = .ok (.iconst 1, 1) := dk_4 (by decide +kernel)
theorem dL_law_585 : decode cL_law 585 = .ok (.iadd, 1) := dk_96 (by decide +kernel)
theorem dL_law_586 : decode cL_law 586 = .ok (.iaload, 1) := dk_46 (by decide +kernel)
theorem dL_law_587 : decode cL_law 587 = .ok (.aload_n 3, 1) := dk_45 (by decide +kernel)
theorem dL_law_588 : decode cL_law 588 = .ok (.invokestatic 134, 3) := dk_184 (by decide +kernel)
theorem dL_law_591 : decode cL_law 591 = .ok (.istore 5, 2) := dk_54 (by decide +kernel)
theorem dL_law_593 : decode cL_law 593 = .ok (.aload_n 2, 1) := dk_44 (by decide +kernel)
theorem dL_law_594 : decode cL_law 594 = .ok (.aload_n 0, 1) := dk_42 (by decide +kernel)
theorem dL_law_595 : decode cL_law 595 = .ok (.iload 4, 2) := dk_21 (by decide +kernel)
theorem dL_law_597 : decode cL_law 597 = .ok (.iconst 1, 1) := dk_4 (by decide +kernel)
theorem dL_law_598 : decode cL_law 598 = .ok (.iadd, 1) := dk_96 (by decide +kernel)
theorem dL_law_599 : decode cL_law 599 = .ok (.iaload, 1) := dk_46 (by decide +kernel)
theorem dL_law_600 : decode cL_law 600 = .ok (.invokevirtual 137, 3) := dk_182 (by decide +kernel)
theorem dL_law_603 : decode cL_law 603 = .ok (.istore 6, 2) := dk_54 (by decide +kernel)
theorem dL_law_605 : decode cL_law 605 = .ok (.goto 902, 3) := dk_167 (by decide +kernel)
theorem dL_law_608 : decode cL_law 608 = .ok (.aload_n 1, 1) := dk_43 (by decide +kernel)
theorem dL_law_609 : decode cL_law 609 = .ok (.aload_n 0, 1) := dk_42 (by decide +kernel)
theorem dL_law_610 : decode cL_law 610 = .ok (.iload 4, 2) := dk_21 (by decide +kernel)
theorem dL_law_612 : decode cL_law 612 = .ok (.iconst 1, 1) := dk_4 (by decide +kernel)
theorem dL_law_613 : decode cL_law 613 = .ok (.iadd, 1) := dk_96 (by decide +kernel)
theorem dL_law_614 : decode cL_law 614 = .ok (.iaload, 1) := dk_46 (by decide +kernel)
theorem dL_law_615 : decode cL_law 615 = .ok (.aload_n 3, 1) := dk_45 (by decide +kernel)
theorem dL_law_616 : decode cL_law 616 = .ok (.invokestatic 138, 3) := dk_184 (by decide +kernel)
theorem dL_law_619 : decode cL_law 619 = .ok (.istore 5, 2) := dk_54 (by decide +kernel)
theorem dL_law_621 : decode cL_law 621 = .ok (.aload_n 2, 1) := dk_44 (by decide +kernel)
theorem dL_law_622 : decode cL_law 622 = .ok (.aload_n 0, 1) := dk_42 (by decide +kernel)
theorem dL_law_623 : decode cL_law 623 = .ok (.iload 4, 2) := dk_21 (by decide +kernel)
theorem dL_law_625 : decode cL_law 625 = .ok (.iconst 1, 1) := dk_4 (by decide +kernel)
theorem dL_law_626 : decode cL_law 626 = .ok (.iadd, 1) := dk_96 (by decide +kernel)
theorem dL_law_627 : decode cL_law 627 = .ok (.iaload, 1) := dk_46 (by decide +kernel)
theorem dL_law_628 : decode cL_law 628 = .ok (.invokevirtual 140, 3) := dk_182 (by decide +kernel)
theorem dL_law_631 : decode cL_law 631 = .ok (.istore 6, 2) := dk_54 (by decide +kernel)
theorem dL_law_633 : decode cL_law 633 = .ok (.goto 874, 3) := dk_167 (by decide +kernel)
theorem dL_law_636 : decode cL_law 636 = .ok (.aload_n 1, 1) := dk_43 (by decide +kernel)
theorem dL_law_637 : decode cL_law 637 = .ok (.aload_n 0, 1) := dk_42 (by decide +kernel)
theorem dL_law_638 : decode cL_law 638 = .ok (.iload 4, 2) := dk_21 (by decide +kernel)
theorem dL_law_640 : decode cL_law 640 = .ok (.iconst 1, 1) := dk_4 (by decide +kernel)
theorem dL_law_641 : decode cL_law 641 = .ok (.iadd, 1) := dk_96 (by decide +kernel)
theorem dL_law_642 : decode cL_law 642 = .ok (.iaload, 1) := dk_46 (by decide +kernel)
theorem dL_law_643 : decode cL_law 643 = .ok (.aload_n 3, 1) := dk_45 (by decide +kernel)
theorem dL_law_644 : decode cL_law 644 = .ok (.invokestatic 141, 3) := dk_184 (by decide +kernel)
theorem dL_law_647 : decode cL_law 647 = .ok (.istore 5, 2) := dk_54 (by decide +kernel)
theorem dL_law_649 : decode cL_law 649 = .ok (.aload_n 2, 1) := dk_44 (by decide +kernel)
theorem dL_law_650 : decode cL_law 650 = .ok (.aload_n 0, 1) := dk_42 (by decide +kernel)
theorem dL_law_651 : decode cL_law 651 = .ok (.iload 4, 2) := dk_21 (by decide +kernel)
theorem dL_law_653 : decode cL_law 653 = .ok (.iconst 1, 1) := dk_4 (by decide +kernel)
theorem dL_law_654 : decode cL_law 654 = .ok (.iadd, 1) := dk_96 (by decide +kernel)
theorem dL_law_655 : decode cL_law 655 = .ok (.iaload, 1) := dk_46 (by decide +kernel)
theorem dL_law_656 : decode cL_law 656 = .ok (.invokevirtual 143, 3) := dk_182 (by decide +kernel)
theorem dL_law_659 : decode cL_law 659 = .ok (.istore 6, 2) := dk_54 (by decide +kernel)
theorem dL_law_661 : decode cL_law 661 = .ok (.goto 846, 3) := dk_167 (by decide +kernel)
theorem dL_law_664 : decode cL_law 664 = .ok (.aload_n 1, 1) := dk_43 (by decide +kernel)
theorem dL_law_665 : decode cL_law 665 = .ok (.aload_n 3, 1) := dk_45 (by decide +kernel)
theorem dL_law_666 : decode cL_law 666 = .ok (.invokestatic 144, 3) := dk_184 (by decide +kernel)
theorem dL_law_669 : decode cL_law 669 = .ok (.istore 5, 2) := dk_54 (by decide +kernel)
theorem dL_law_671 : decode cL_law 671 = .ok (.aload_n 2, 1) := dk_44 (by decide +kernel)
theorem dL_law_672 : decode cL_law 672 = .ok (.invokevirtual 146, 3) := dk_182 (by decide +kernel)
theorem dL_law_675 : decode cL_law 675 = .ok (.istore 6, 2) := dk_54 (by decide +kernel)
theorem dL_law_677 : decode cL_law 677 = .ok (.goto 830, 3) := dk_167 (by decide +kernel)
theorem dL_law_680 : decode cL_law 680 = .ok (.aload_n 1, 1) := dk_43 (by decide +kernel)
theorem dL_law_681 : decode cL_law 681 = .ok (.aload_n 0, 1) := dk_42 (by decide +kernel)
theorem dL_law_682 : decode cL_law 682 = .ok (.iload 4, 2) := dk_21 (by decide +kernel)
theorem dL_law_684 : decode cL_law 684 = .ok (.iconst 1, 1) := dk_4 (by decide +kernel)
theorem dL_law_685 : decode cL_law 685 = .ok (.iadd, 1) := dk_96 (by decide +kernel)
theorem dL_law_686 : decode cL_law 686 = .ok (.iaload, 1) := dk_46 (by decide +kernel)
theorem dL_law_687 : decode cL_law 687 = .ok (.aload_n 0, 1) := dk_42 (by decide +kernel)
theorem dL_law_688 : decode cL_law 688 = .ok (.iload 4, 2) := dk_21 (by decide +kernel)
theorem dL_law_690 : decode cL_law 690 = .ok (.iconst 2, 1) := dk_5 (by decide +kernel)
theorem dL_law_691 : decode cL_law 691 = .ok (.iadd, 1) := dk_96 (by decide +kernel)
theorem dL_law_692 : decode cL_law 692 = .ok (.iaload, 1) := dk_46 (by decide +kernel)
theorem dL_law_693 : decode cL_law 693 = .ok (.aload_n 3, 1) := dk_45 (by decide +kernel)
theorem dL_law_694 : decode cL_law 694 = .ok (.invokestatic 147, 3) := dk_184 (by decide +kernel)
theorem dL_law_697 : decode cL_law 697 = .ok (.istore 5, 2) := dk_54 (by decide +kernel)
theorem dL_law_699 : decode cL_law 699 = .ok (.aload_n 2, 1) := dk_44 (by decide +kernel)
theorem dL_law_700 : decode cL_law 700 = .ok (.aload_n 0, 1) := dk_42 (by decide +kernel)
theorem dL_law_701 : decode cL_law 701 = .ok (.iload 4, 2) := dk_21 (by decide +kernel)
theorem dL_law_703 : decode cL_law 703 = .ok (.iconst 1, 1) := dk_4 (by decide +kernel)
theorem dL_law_704 : decode cL_law 704 = .ok (.iadd, 1) := dk_96 (by decide +kernel)
theorem dL_law_705 : decode cL_law 705 = .ok (.iaload, 1) := dk_46 (by decide +kernel)
theorem dL_law_706 : decode cL_law 706 = .ok (.aload_n 0, 1) := dk_42 (by decide +kernel)
theorem dL_law_707 : decode cL_law 707 = .ok (.iload 4, 2) := dk_21 (by decide +kernel)
theorem dL_law_709 : decode cL_law 709 = .ok (.iconst 2, 1) := dk_5 (by decide +kernel)
theorem dL_law_710 : decode cL_law 710 = .ok (.iadd, 1) := dk_96 (by decide +kernel)
theorem dL_law_711 : decode cL_law 711 = .ok (.iaload, 1) := dk_46 (by decide +kernel)
theorem dL_law_712 : decode cL_law 712 = .ok (.invokevirtual 149, 3) := dk_182 (by decide +kernel)
theorem dL_law_715 : decode cL_law 715 = .ok (.istore 6, 2) := dk_54 (by decide +kernel)
theorem dL_law_717 : decode cL_law 717 = .ok (.goto 790, 3) := dk_167 (by decide +kernel)
theorem dL_law_720 : decode cL_law 720 = .ok (.aload_n 1, 1) := dk_43 (by decide +kernel)
theorem dL_law_721 : decode cL_law 721 = .ok (.aload_n 3, 1) := dk_45 (by decide +kernel)
theorem dL_law_722 : decode cL_law 722 = .ok (.invokestatic 150, 3) := dk_184 (by decide +kernel)
theorem dL_law_725 : decode cL_law 725 = .ok (.istore 5, 2) := dk_54 (by decide +kernel)
theorem dL_law_727 : decode cL_law 727 = .ok (.aload_n 2, 1) := dk_44 (by decide +kernel)
theorem dL_law_728 : decode cL_law 728 = .ok (.invokevirtual 152, 3) := dk_182 (by decide +kernel)
theorem dL_law_731 : decode cL_law 731 = .ok (.istore 6, 2) := dk_54 (by decide +kernel)
theorem dL_law_733 : decode cL_law 733 = .ok (.goto 774, 3) := dk_167 (by decide +kernel)
theorem dL_law_736 : decode cL_law 736 = .ok (.aload_n 1, 1) := dk_43 (by decide +kernel)
theorem dL_law_737 : decode cL_law 737 = .ok (.aload_n 0, 1) := dk_42 (by decide +kernel)
theorem dL_law_738 : decode cL_law 738 = .ok (.iload 4, 2) := dk_21 (by decide +kernel)
theorem dL_law_740 : decode cL_law 740 = .ok (.iconst 1, 1) := dk_4 (by decide +kernel)
theorem dL_law_741 : decode cL_law 741 = .ok (.iadd, 1) := dk_96 (by decide +kernel)
theorem dL_law_742 : decode cL_law 742 = .ok (.iaload, 1) := dk_46 (by decide +kernel)
theorem dL_law_743 : decode cL_law 743 = .ok (.aload_n 0, 1) := dk_42 (by decide +kernel)
theorem dL_law_744 : decode cL_law 744 = .ok (.iload 4, 2) := dk_21 (by decide +kernel)
theorem dL_law_746 : decode cL_law 746 = .ok (.iconst 2, 1) := dk_5 (by decide +kernel)
theorem dL_law_747 : decode cL_law 747 = .ok (.iadd, 1) := dk_96 (by decide +kernel)
theorem dL_law_748 : decode cL_law 748 = .ok (.iaload, 1) := dk_46 (by decide +kernel)
theorem dL_law_749 : decode cL_law 749 = .ok (.invokevirtual 153, 3) := dk_182 (by decide +kernel)
theorem dL_law_752 : decode cL_law 752 = .ok (.pop, 1) := dk_87 (by decide +kernel)
theorem dL_law_753 : decode cL_law 753 = .ok (.aload_n 2, 1) := dk_44 (by decide +kernel)
theorem dL_law_754 : decode cL_law 754 = .ok (.aload_n 0, 1) := dk_42 (by decide +kernel)
theorem dL_law_755 : decode cL_law 755 = .ok (.iload 4, 2) := dk_21 (by decide +kernel)
theorem dL_law_757 : decode cL_law 757 = .ok (.iconst 1, 1) := dk_4 (by decide +kernel)
theorem dL_law_758 : decode cL_law 758 = .ok (.iadd, 1) := dk_96 (by decide +kernel)
theorem dL_law_759 : decode cL_law 759 = .ok (.iaload, 1) := dk_46 (by decide +kernel)
theorem dL_law_760 : decode cL_law 760 = .ok (.aload_n 0, 1) := dk_42 (by decide +kernel)
theorem dL_law_761 : decode cL_law 761 = .ok (.iload 4, 2) := dk_21 (by decide +kernel)
theorem dL_law_763 : decode cL_law 763 = .ok (.iconst 2, 1) := dk_5 (by decide +kernel)
theorem dL_law_764 : decode cL_law 764 = .ok (.iadd, 1) := dk_96 (by decide +kernel)
theorem dL_law_765 : decode cL_law 765 = .ok (.iaload, 1) := dk_46 (by decide +kernel)
theorem dL_law_766 : decode cL_law 766 = .ok (.invokevirtual 156, 3) := dk_182 (by decide +kernel)
theorem dL_law_769 : decode cL_law 769 = .ok (.pop, 1) := dk_87 (by decide +kernel)
theorem dL_law_770 : decode cL_law 770 = .ok (.goto 737, 3) := dk_167 (by decide +kernel)
theorem dL_law_773 : decode cL_law 773 = .ok (.aload_n 1, 1) := dk_43 (by decide +kernel)
theorem dL_law_774 : decode cL_law 774 = .ok (.aload_n 0, 1) := dk_42 (by decide +kernel)
theorem dL_law_775 : decode cL_law 775 = .ok (.iload 4, 2) := dk_21 (by decide +kernel)
theorem dL_law_777 : decode cL_law 777 = .ok (.iconst 1, 1) := dk_4 (by decide +kernel)
theorem dL_law_778 : decode cL_law 778 = .ok (.iadd, 1) := dk_96 (by decide +kernel)
theorem dL_law_779 : decode cL_law 779 = .ok (.iaload, 1) := dk_46 (by decide +kernel)
theorem dL_law_780 : decode cL_law 780 = .ok (.aload_n 3, 1) := dk_45 (by decide +kernel)
theorem dL_law_781 : decode cL_law 781 = .ok (.invokestatic 157, 3) := dk_184 (by decide +kernel)
theorem dL_law_784 : decode cL_law 784 = .ok (.istore 5, 2) := dk_54 (by decide +kernel)
theorem dL_law_786 : decode cL_law 786 = .ok (.aload_n 2, 1) := dk_44 (by decide +kernel)
theorem dL_law_787 : decode cL_law 787 = .ok (.aload_n 0, 1) := dk_42 (by decide +kernel)
theorem dL_law_788 : decode cL_law 788 = .ok (.iload 4, 2) := dk_21 (by decide +kernel)
theorem dL_law_790 : decode cL_law 790 = .ok (.iconst 1, 1) := dk_4 (by decide +kernel)
theorem dL_law_791 : decode cL_law 791 = .ok (.iadd, 1) := dk_96 (by decide +kernel)
theorem dL_law_792 : decode cL_law 792 = .ok (.iaload, 1) := dk_46 (by decide +kernel)
theorem dL_law_793 : decode cL_law 793 = .ok (.invokevirtual 159, 3) := dk_182 (by decide +kernel)
theorem dL_law_796 : decode cL_law 796 = .ok (.istore 6, 2) := dk_54 (by decide +kernel)
theorem dL_law_798 : decode cL_law 798 = .ok (.goto 709, 3) := dk_167 (by decide +kernel)
theorem dL_law_801 : decode cL_law 801 = .ok (.aload_n 1, 1) := dk_43 (by decide +kernel)
theorem dL_law_802 : decode cL_law 802 = .ok (.aload_n 0, 1) := dk_42 (by decide +kernel)
theorem dL_law_803 : decode cL_law 803 = .ok (.iload 4, 2) := dk_21 (by decide +kernel)
theorem dL_law_805 : decode cL_law 805 = .ok (.iconst 1, 1) := dk_4 (by decide +kernel)
theorem dL_law_806 : decode cL_law 806 = .ok (.iadd, 1) := dk_96 (by decide +kernel)
theorem dL_law_807 : decode cL_law 807 = .ok (.iaload, 1) := dk_46 (by decide +kernel)
theorem dL_law_808 : decode cL_law 808 = .ok (.invokevirtual 160, 3) := dk_182 (by decide +kernel)
theorem dL_law_811 : decode cL_law 811 = .ok (.pop, 1) := dk_87 (by decide +kernel)
theorem dL_law_812 : decode cL_law 812 = .ok (.aload_n 2, 1) := dk_44 (by decide +kernel)
theorem dL_law_813 : decode cL_law 813 = .ok (.aload_n 0, 1) := dk_42 (by decide +kernel)
theorem dL_law_814 : decode cL_law 814 = .ok (.iload 4, 2) := dk_21 (by decide +kernel)
theorem dL_law_816 : decode cL_law 816 = .ok (.iconst 1, 1) := dk_4 (by decide +kernel)
theorem dL_law_817 : decode cL_law 817 = .ok (.iadd, 1) := dk_96 (by decide +kernel)
theorem dL_law_818 : decode cL_law 818 = .ok (.iaload, 1) := dk_46 (by decide +kernel)
theorem dL_law_819 : decode cL_law 819 = .ok (.invokevirtual 163, 3) := dk_182 (by decide +kernel)
theorem dL_law_822 : decode cL_law 822 = .ok (.pop, 1) := dk_87 (by decide +kernel)
theorem dL_law_823 : decode cL_law 823 = .ok (.goto 684, 3) := dk_167 (by decide +kernel)
theorem dL_law_826 : decode cL_law 826 = .ok (.aload_n 1, 1) := dk_43 (by decide +kernel)
theorem dL_law_827 : decode cL_law 827 = .ok (.aload_n 0, 1) := dk_42 (by decide +kernel)
theorem dL_law_828 : decode cL_law 828 = .ok (.iload 4, 2) := dk_21 (by decide +kernel)
theorem dL_law_830 : decode cL_law 830 = .ok (.iconst 1, 1) := dk_4 (by decide +kernel)
theorem dL_law_831 : decode cL_law 831 = .ok (.iadd, 1) := dk_96 (by decide +kernel)
theorem dL_law_832 : decode cL_law 832 = .ok (.iaload, 1) := dk_46 (by decide +kernel)
theorem dL_law_833 : decode cL_law 833 = .ok (.invokevirtual 164, 3) := dk_182 (by decide +kernel)
theorem dL_law_836 : decode cL_law 836 = .ok (.pop, 1) := dk_87 (by decide +kernel)
theorem dL_law_837 : decode cL_law 837 = .ok (.aload_n 2, 1) := dk_44 (by decide +kernel)
theorem dL_law_838 : decode cL_law 838 = .ok (.aload_n 0, 1) := dk_42 (by decide +kernel)
theorem dL_law_839 : decode cL_law 839 = .ok (.iload 4, 2) := dk_21 (by decide +kernel)
theorem dL_law_841 : decode cL_law 841 = .ok (.iconst 1, 1) := dk_4 (by decide +kernel)
theorem dL_law_842 : decode cL_law 842 = .ok (.iadd, 1) := dk_96 (by decide +kernel)
theorem dL_law_843 : decode cL_law 843 = .ok (.iaload, 1) := dk_46 (by decide +kernel)
theorem dL_law_844 : decode cL_law 844 = .ok (.invokevirtual 167, 3) := dk_182 (by decide +kernel)
theorem dL_law_847 : decode cL_law 847 = .ok (.pop, 1) := dk_87 (by decide +kernel)
theorem dL_law_848 : decode cL_law 848 = .ok (.goto 659, 3) := dk_167 (by decide +kernel)
theorem dL_law_851 : decode cL_law 851 = .ok (.aload_n 1, 1) := dk_43 (by decide +kernel)
theorem dL_law_852 : decode cL_law 852 = .ok (.aload_n 0, 1) := dk_42 (by decide +kernel)
theorem dL_law_853 : decode cL_law 853 = .ok (.iload 4, 2) := dk_21 (by decide +kernel)
theorem dL_law_855 : decode cL_law 855 = .ok (.iconst 1, 1) := dk_4 (by decide +kernel)
theorem dL_law_856 : decode cL_law 856 = .ok (.iadd, 1) := dk_96 (by decide +kernel)
theorem dL_law_857 : decode cL_law 857 = .ok (.iaload, 1) := dk_46 (by decide +kernel)
theorem dL_law_858 : decode cL_law 858 = .ok (.aload_n 3, 1) := dk_45 (by decide +kernel)
theorem dL_law_859 : decode cL_law 859 = .ok (.invokestatic 168, 3) := dk_184 (by decide +kernel)
theorem dL_law_862 : decode cL_law 862 = .ok (.istore 5, 2) := dk_54 (by decide +kernel)
theorem dL_law_864 : decode cL_law 864 = .ok (.aload_n 2, 1) := dk_44 (by decide +kernel)
theorem dL_law_865 : decode cL_law 865 = .ok (.aload_n 0, 1) := dk_42 (by decide +kernel)
theorem dL_law_866 : decode cL_law 866 = .ok (.iload 4, 2) := dk_21 (by decide +kernel)
theorem dL_law_868 : decode cL_law 868 = .ok (.iconst 1, 1) := dk_4 (by decide +kernel)
theorem dL_law_869 : decode cL_law 869 = .ok (.iadd, 1) := dk_96 (by decide +kernel)
theorem dL_law_870 : decode cL_law 870 = .ok (.iaload, 1) := dk_46 (by decide +kernel)
theorem dL_law_871 : decode cL_law 871 = .ok (.invokevirtual 170, 3) := dk_182 (by decide +kernel)
theorem dL_law_874 : decode cL_law 874 = .ok (.istore 6, 2) := dk_54 (by decide +kernel)
theorem dL_law_876 : decode cL_law 876 = .ok (.goto 631, 3) := dk_167 (by decide +kernel)
theorem dL_law_879 : decode cL_law 879 = .ok (.aload_n 1, 1) := dk_43 (by decide +kernel)
theorem dL_law_880 : decode cL_law 880 = .ok (.aload_n 0, 1) := dk_42 (by decide +kernel)
theorem dL_law_881 : decode cL_law 881 = .ok (.iload 4, 2) := dk_21 (by decide +kernel)
theorem dL_law_883 : decode cL_law 883 = .ok (.iconst 1, 1) := dk_4 (by decide +kernel)
theorem dL_law_884 : decode cL_law 884 = .ok (.iadd, 1) := dk_96 (by decide +kernel)
theorem dL_law_885 : decode cL_law 885 = .ok (.iaload, 1) := dk_46 (by decide +kernel)
theorem dL_law_886 : decode cL_law 886 = .ok (.aload_n 0, 1) := dk_42 (by decide +kernel)
theorem dL_law_887 : decode cL_law 887 = .ok (.iload 4, 2) := dk_21 (by decide +kernel)
theorem dL_law_889 : decode cL_law 889 = .ok (.iconst 2, 1) := dk_5 (by decide +kernel)
theorem dL_law_890 : decode cL_law 890 = .ok (.iadd, 1) := dk_96 (by decide +kernel)
theorem dL_law_891 : decode cL_law 891 = .ok (.iaload, 1) := dk_46 (by decide +kernel)
theorem dL_law_892 : decode cL_law 892 = .ok (.aload_n 0, 1) := dk_42 (by decide +kernel)
theorem dL_law_893 : decode cL_law 893 = .ok (.iload 4, 2) := dk_21 (by decide +kernel)
theorem dL_law_895 : decode cL_law 895 = .ok (.iconst 3, 1) := dk_6 (by decide +kernel)
theorem dL_law_896 : decode cL_law 896 = .ok (.iadd, 1) := dk_96 (by decide +kernel)
theorem dL_law_897 : decode cL_law 897 = .ok (.iaload, 1) := dk_46 (by decide +kernel)
theorem dL_law_898 : decode cL_law 898 = .ok (.aload_n 0, 1) := dk_42 (by decide +kernel)
theorem dL_law_899 : decode cL_law 899 = .ok (.iload 4, 2) := dk_21 (by decide +kernel)
theorem dL_law_901 : decode cL_law 901 = .ok (.iconst 4, 1) := dk_7 (by decide +kernel)
theorem dL_law_902 : decode cL_law 902 = .ok (.iadd, 1) := dk_96 (by decide +kernel)
theorem dL_law_903 : decode cL_law 903 = .ok (.iaload, 1) := dk_46 (by decide +kernel)
theorem dL_law_904 : decode cL_law 904 = .ok (.aload_n 3, 1) := dk_45 (by decide +kernel)
theorem dL_law_905 : decode cL_law 905 = .ok (.invokestatic 171, 3) := dk_184 (by decide +kernel)
theorem dL_law_908 : decode cL_law 908 = .ok (.istore 5, 2) := dk_54 (by decide +kernel)
theorem dL_law_910 : decode cL_law 910 = .ok (.aload_n 2, 1) := dk_44 (by decide +kernel)
theorem dL_law_911 : decode cL_law 911 = .ok (.aload_n 0, 1) := dk_42 (by decide +kernel)
theorem dL_law_912 : decode cL_law 912 = .ok (.iload 4, 2) := dk_21 (by decide +kernel)
theorem dL_law_914 : decode cL_law 914 = .ok (.iconst 1, 1) := dk_4 (by decide +kernel)
theorem dL_law_915 : decode cL_law 915 = .ok (.iadd, 1) := dk_96 (by decide +kernel)
theorem dL_law_916 : decode cL_law 916 = .ok (.iaload, 1) := dk_46 (by decide +kernel)
theorem dL_law_917 : decode cL_law 917 = .ok (.aload_n 0, 1) := dk_42 (by decide +kernel)
theorem dL_law_918 : decode cL_law 918 = .ok (.iload 4, 2) := dk_21 (by decide +kernel)
theorem dL_law_920 : decode cL_law 920 = .ok (.iconst 2, 1) := dk_5 (by decide +kernel)
theorem dL_law_921 : decode cL_law 921 = .ok (.iadd, 1) := dk_96 (by decide +kernel)
theorem dL_law_922 : decode cL_law 922 = .ok (.iaload, 1) := dk_46 (by decide +kernel)
theorem dL_law_923 : decode cL_law 923 = .ok (.aload_n 0, 1) := dk_42 (by decide +kernel)
theorem dL_law_924 : decode cL_law 924 = .ok (.iload 4, 2) := dk_21 (by decide +kernel)
theorem dL_law_926 : decode cL_law 926 = .ok (.iconst 3, 1) := dk_6 (by decide +kernel)
theorem dL_law_927 : decode cL_law 927 = .ok (.iadd, 1) := dk_96 (by decide +kernel)
theorem dL_law_928 : decode cL_law 928 = .ok (.iaload, 1) := dk_46 (by decide +kernel)
theorem dL_law_929 : decode cL_law 929 = .ok (.aload_n 0, 1) := dk_42 (by decide +kernel)
theorem dL_law_930 : decode cL_law 930 = .ok (.iload 4, 2) := dk_21 (by decide +kernel)
theorem dL_law_932 : decode cL_law 932 = .ok (.iconst 4, 1) := dk_7 (by decide +kernel)
theorem dL_law_933 : decode cL_law 933 = .ok (.iadd, 1) := dk_96 (by decide +kernel)
theorem dL_law_934 : decode cL_law 934 = .ok (.iaload, 1) := dk_46 (by decide +kernel)
theorem dL_law_935 : decode cL_law 935 = .ok (.invokevirtual 174, 3) := dk_182 (by decide +kernel)
theorem dL_law_938 : decode cL_law 938 = .ok (.istore 6, 2) := dk_54 (by decide +kernel)
theorem dL_law_940 : decode cL_law 940 = .ok (.goto 567, 3) := dk_167 (by decide +kernel)
theorem dL_law_943 : decode cL_law 943 = .ok (.aload_n 1, 1) := dk_43 (by decide +kernel)
theorem dL_law_944 : decode cL_law 944 = .ok (.aload_n 0, 1) := dk_42 (by decide +kernel)
theorem dL_law_945 : decode cL_law 945 = .ok (.iload 4, 2) := dk_21 (by decide +kernel)
theorem dL_law_947 : decode cL_law 947 = .ok (.iconst 1, 1) := dk_4 (by decide +kernel)
theorem dL_law_948 : decode cL_law 948 = .ok (.iadd, 1) := dk_96 (by decide +kernel)
theorem dL_law_949 : decode cL_law 949 = .ok (.iaload, 1) := dk_46 (by decide +kernel)
theorem dL_law_950 : decode cL_law 950 = .ok (.aload_n 0, 1) := dk_42 (by decide +kernel)
theorem dL_law_951 : decode cL_law 951 = .ok (.iload 4, 2) := dk_21 (by decide +kernel)
theorem dL_law_953 : decode cL_law 953 = .ok (.iconst 2, 1) := dk_5 (by decide +kernel)
theorem dL_law_954 : decode cL_law 954 = .ok (.iadd, 1) := dk_96 (by decide +kernel)
theorem dL_law_955 : decode cL_law 955 = .ok (.iaload, 1) := dk_46 (by decide +kernel)
theorem dL_law_956 : decode cL_law 956 = .ok (.invokevirtual 175, 3) := dk_182 (by decide +kernel)
theorem dL_law_959 : decode cL_law 959 = .ok (.pop, 1) := dk_87 (by decide +kernel)
theorem dL_law_960 : decode cL_law 960 = .ok (.aload_n 2, 1) := dk_44 (by decide +kernel)
theorem dL_law_961 : decode cL_law 961 = .ok (.aload_n 0, 1) := dk_42 (by decide +kernel)
theorem dL_law_962 : decode cL_law 962 = .ok (.iload 4, 2) := dk_21 (by decide +kernel)
theorem dL_law_964 : decode cL_law 964 = .ok (.iconst 1, 1) := dk_4 (by decide +kernel)
theorem dL_law_965 : decode cL_law 965 = .ok (.iadd, 1) := dk_96 (by decide +kernel)
theorem dL_law_966 : decode cL_law 966 = .ok (.iaload, 1) := dk_46 (by decide +kernel)
theorem dL_law_967 : decode cL_law 967 = .ok (.aload_n 0, 1) := dk_42 (by decide +kernel)
theorem dL_law_968 : decode cL_law 968 = .ok (.iload 4, 2) := dk_21 (by decide +kernel)
theorem dL_law_970 : decode cL_law 970 = .ok (.iconst 2, 1) := dk_5 (by decide +kernel)
theorem dL_law_971 : decode cL_law 971 = .ok (.iadd, 1) := dk_96 (by decide +kernel)
theorem dL_law_972 : decode cL_law 972 = .ok (.iaload, 1) := dk_46 (by decide +kernel)
theorem dL_law_973 : decode cL_law 973 = .ok (.invokevirtual 179, 3) := dk_182 (by decide +kernel)
theorem dL_law_976 : decode cL_law 976 = .ok (.pop, 1) := dk_87 (by decide +kernel)
theorem dL_law_977 : decode cL_law 977 = .ok (.goto 530, 3) := dk_167 (by decide +kernel)
theorem dL_law_980 : decode cL_law 980 = .ok (.aload_n 1, 1) := dk_43 (by decide +kernel)
theorem dL_law_981 : decode cL_law 981 = .ok (.aload_n 0, 1) := dk_42 (by decide +kernel)
theorem dL_law_982 : decode cL_law 982 = .ok (.iload 4, 2) := dk_21 (by decide +kernel)
theorem dL_law_984 : decode cL_law 984 = .ok (.iconst 1, 1) := dk_4 (by decide +kernel)
theorem dL_law_985 : decode cL_law 985 = .ok (.iadd, 1) := dk_96 (by decide +kernel)
theorem dL_law_986 : decode cL_law 986 = .ok (.iaload, 1) := dk_46 (by decide +kernel)
theorem dL_law_987 : decode cL_law 987 = .ok (.invokevirtual 180, 3) := dk_182 (by decide +kernel)
theorem dL_law_990 : decode cL_law 990 = .ok (.pop, 1) := dk_87 (by decide +kernel)
theorem dL_law_991 : decode cL_law 991 = .ok (.aload_n 2, 1) := dk_44 (by decide +kernel)
theorem dL_law_992 : decode cL_law 992 = .ok (.aload_n 0, 1) := dk_42 (by decide +kernel)
theorem dL_law_993 : decode cL_law 993 = .ok (.iload 4, 2) := dk_21 (by decide +kernel)
theorem dL_law_995 : decode cL_law 995 = .ok (.iconst 1, 1) := dk_4 (by decide +kernel)
theorem dL_law_996 : decode cL_law 996 = .ok (.iadd, 1) := dk_96 (by decide +kernel)
theorem dL_law_997 : decode cL_law 997 = .ok (.iaload, 1) := dk_46 (by decide +kernel)
theorem dL_law_998 : decode cL_law 998 = .ok (.invokevirtual 183, 3) := dk_182 (by decide +kernel)
theorem dL_law_1001 : decode cL_law 1001 = .ok (.pop, 1) := dk_87 (by decide +kernel)
theorem dL_law_1002 : decode cL_law 1002 = .ok (.goto 505, 3) := dk_167 (by decide +kernel)
theorem dL_law_1005 : decode cL_law 1005 = .ok (.aload_n 1, 1) := dk_43 (by decide +kernel)
theorem dL_law_1006 : decode cL_law 1006 = .ok (.invokevirtual 184, 3) := dk_182 (by decide +kernel)
theorem dL_law_1009 : decode cL_law 1009 = .ok (.pop, 1) := dk_87 (by decide +kernel)
theorem dL_law_1010 : decode cL_law 1010 = .ok (.aload_n 2, 1) := dk_44 (by decide +kernel)
theorem dL_law_1011 : decode cL_law 1011 = .ok (.invokevirtual 187, 3) := dk_182 (by decide +kernel)
theorem dL_law_1014 : decode cL_law 1014 = .ok (.pop, 1) := dk_87 (by decide +kernel)
theorem dL_law_1015 : decode cL_law 1015 = .ok (.goto 492, 3) := dk_167 (by decide +kernel)
theorem dL_law_1018 : decode cL_law 1018 = .ok (.aload_n 1, 1) := dk_43 (by decide +kernel)
theorem dL_law_1019 : decode cL_law 1019 = .ok (.aload_n 0, 1) := dk_42 (by decide +kernel)
theorem dL_law_1020 : decode cL_law 1020 = .ok (.iload 4, 2) := dk_21 (by decide +kernel)
theorem dL_law_1022 : decode cL_law 1022 = .ok (.iconst 1, 1) := dk_4 (by decide +kernel)
theorem dL_law_1023 : decode cL_law 1023 = .ok (.iadd, 1) := dk_96 (by decide +kernel)
theorem dL_law_1024 : decode cL_law 1024 = .ok (.iaload, 1) := dk_46 (by decide +kernel)
theorem dL_law_1025 : decode cL_law 1025 = .ok (.aload_n 0, 1) := dk_42 (by decide +kernel)
theorem dL_law_1026 : decode cL_law 1026 = .ok (.iload 4, 2) := dk_21 (by decide +kernel)
theorem dL_law_1028 : decode cL_law 1028 = .ok (.iconst 2, 1) := dk_5 (by decide +kernel)
theorem dL_law_1029 : decode cL_law 1029 = .ok (.iadd, 1) := dk_96 (by decide +kernel)
theorem dL_law_1030 : decode cL_law 1030 = .ok (.iaload, 1) := dk_46 (by decide +kernel)
theorem dL_law_1031 : decode cL_law 1031 = .ok (.invokevirtual 188, 3) := dk_182 (by decide +kernel)
theorem dL_law_1034 : decode cL_law 1034 = .ok (.aload_n 2, 1) := dk_44 (by decide +kernel)
theorem dL_law_1035 : decode cL_law 1035 = .ok (.aload_n 0, 1) := dk_42 (by decide +kernel)
theorem dL_law_1036 : decode cL_law 1036 = .ok (.iload 4, 2) := dk_21 (by decide +kernel)
theorem dL_law_1038 : decode cL_law 1038 = .ok (.iconst 1, 1) := dk_4 (by decide +kernel)
theorem dL_law_1039 : decode cL_law 1039 = .ok (.iadd, 1) := dk_96 (by decide +kernel)
theorem dL_law_1040 : decode cL_law 1040 = .ok (.iaload, 1) := dk_46 (by decide +kernel)
theorem dL_law_1041 : decode cL_law 1041 = .ok (.aload_n 0, 1) := dk_42 (by decide +kernel)
theorem dL_law_1042 : decode cL_law 1042 = .ok (.iload 4, 2) := dk_21 (by decide +kernel)
theorem dL_law_1044 : decode cL_law 1044 = .ok (.iconst 2, 1) := dk_5 (by decide +kernel)
theorem dL_law_1045 : decode cL_law 1045 = .ok (.iadd, 1) := dk_96 (by decide +kernel)
theorem dL_law_1046 : decode cL_law 1046 = .ok (.iaload, 1) := dk_46 (by decide +kernel)
theorem dL_law_1047 : decode cL_law 1047 = .ok (.invokevirtual 191, 3) := dk_182 (by decide +kernel)
theorem dL_law_1050 : decode cL_law 1050 = .ok (.if_icmp .eq 457, 3) := dk_159 (by decide +kernel)
theorem dL_law_1055 : decode cL_law 1055 = .ok (.aload_n 1, 1) := dk_43 (by decide +kernel)
theorem dL_law_1056 : decode cL_law 1056 = .ok (.aload_n 0, 1) := dk_42 (by decide +kernel)
theorem dL_law_1057 : decode cL_law 1057 = .ok (.iload 4, 2) := dk_21 (by decide +kernel)
theorem dL_law_1059 : decode cL_law 1059 = .ok (.iconst 1, 1) := dk_4 (by decide +kernel)
theorem dL_law_1060 : decode cL_law 1060 = .ok (.iadd, 1) := dk_96 (by decide +kernel)
theorem dL_law_1061 : decode cL_law 1061 = .ok (.iaload, 1) := dk_46 (by decide +kernel)
theorem dL_law_1062 : decode cL_law 1062 = .ok (.aload_n 0, 1) := dk_42 (by decide +kernel)
theorem dL_law_1063 : decode cL_law 1063 = .ok (.iload 4, 2) := dk_21 (by decide +kernel)
theorem dL_law_1065 : decode cL_law 1065 = .ok (.iconst 2, 1) := dk_5 (by decide +kernel)
theorem dL_law_1066 : decode cL_law 1066 = .ok (.iadd, 1) := dk_96 (by decide +kernel)
theorem dL_law_1067 : decode cL_law 1067 = .ok (.iaload, 1) := dk_46 (by decide +kernel)
theorem dL_law_1068 : decode cL_law 1068 = .ok (.invokevirtual 192, 3) := dk_182 (by decide +kernel)
theorem dL_law_1071 : decode cL_law 1071 = .ok (.pop, 1) := dk_87 (by decide +kernel)
theorem dL_law_1072 : decode cL_law 1072 = .ok (.aload_n 2, 1) := dk_44 (by decide +kernel)
theorem dL_law_1073 : decode cL_law 1073 = .ok (.aload_n 0, 1) := dk_42 (by decide +kernel)
theorem dL_law_1074 : decode cL_law 1074 = .ok (.iload 4, 2) := dk_21 (by decide +kernel)
theorem dL_law_1076 : decode cL_law 1076 = .ok (.iconst 1, 1) := dk_4 (by decide +kernel)
theorem dL_law_1077 : decode cL_law 1077 = .ok (.iadd, 1) := dk_96 (by decide +kernel)
theorem dL_law_1078 : decode cL_law 1078 = .ok (.iaload, 1) := dk_46 (by decide +kernel)
theorem dL_law_1079 : decode cL_law 1079 = .ok (.aload_n 0, 1) := dk_42 (by decide +kernel)
theorem dL_law_1080 : decode cL_law 1080 = .ok (.iload 4, 2) := dk_21 (by decide +kernel)
theorem dL_law_1082 : decode cL_law 1082 = .ok (.iconst 2, 1) := dk_5 (by decide +kernel)
theorem dL_law_1083 : decode cL_law 1083 = .ok (.iadd, 1) := dk_96 (by decide +kernel)
theorem dL_law_1084 : decode cL_law 1084 = .ok (.iaload, 1) := dk_46 (by decide +kernel)
theorem dL_law_1085 : decode cL_law 1085 = .ok (.invokevirtual 195, 3) := dk_182 (by decide +kernel)
theorem dL_law_1088 : decode cL_law 1088 = .ok (.pop, 1) := dk_87 (by decide +kernel)
theorem dL_law_1089 : decode cL_law 1089 = .ok (.goto 418, 3) := dk_167 (by decide +kernel)
theorem dL_law_1092 : decode cL_law 1092 = .ok (.aload_n 1, 1) := dk_43 (by decide +kernel)
theorem dL_law_1093 : decode cL_law 1093 = .ok (.invokevirtual 196, 3) := dk_182 (by decide +kernel)
theorem dL_law_1096 : decode cL_law 1096 = .ok (.aload_n 2, 1) := dk_44 (by decide +kernel)
theorem dL_law_1097 : decode cL_law 1097 = .ok (.invokevirtual 199, 3) := dk_182 (by decide +kernel)
theorem dL_law_1100 : decode cL_law 1100 = .ok (.goto 407, 3) := dk_167 (by decide +kernel)
theorem dL_law_1103 : decode cL_law 1103 = .ok (.aload_n 1, 1) := dk_43 (by decide +kernel)
theorem dL_law_1104 : decode cL_law 1104 = .ok (.aload_n 0, 1) := dk_42 (by decide +kernel)
theorem dL_law_1105 : decode cL_law 1105 = .ok (.iload 4, 2) := dk_21 (by decide +kernel)
theorem dL_law_1107 : decode cL_law 1107 = .ok (.iconst 1, 1) := dk_4 (by decide +kernel)
theorem dL_law_1108 : decode cL_law 1108 = .ok (.iadd, 1) := dk_96 (by decide +kernel)
theorem dL_law_1109 : decode cL_law 1109 = .ok (.iaload, 1) := dk_46 (by decide +kernel)
theorem dL_law_1110 : decode cL_law 1110 = .ok (.aload_n 0, 1) := dk_42 (by decide +kernel)
theorem dL_law_1111 : decode cL_law 1111 = .ok (.iload 4, 2) := dk_21 (by decide +kernel)
theorem dL_law_1113 : decode cL_law 1113 = .ok (.iconst 2, 1) := dk_5 (by decide +kernel)
theorem dL_law_1114 : decode cL_law 1114 = .ok (.iadd, 1) := dk_96 (by decide +kernel)
theorem dL_law_1115 : decode cL_law 1115 = .ok (.iaload, 1) := dk_46 (by decide +kernel)
theorem dL_law_1116 : decode cL_law 1116 = .ok (.aload_n 0, 1) := dk_42 (by decide +kernel)
theorem dL_law_1117 : decode cL_law 1117 = .ok (.iload 4, 2) := dk_21 (by decide +kernel)
theorem dL_law_1119 : decode cL_law 1119 = .ok (.iconst 3, 1) := dk_6 (by decide +kernel)
theorem dL_law_1120 : decode cL_law 1120 = .ok (.iadd, 1) := dk_96 (by decide +kernel)
theorem dL_law_1121 : decode cL_law 1121 = .ok (.iaload, 1) := dk_46 (by decide +kernel)
theorem dL_law_1122 : decode cL_law 1122 = .ok (.aload_n 3, 1) := dk_45 (by decide +kernel)
theorem dL_law_1123 : decode cL_law 1123 = .ok (.invokestatic 200, 3) := dk_184 (by decide +kernel)
theorem dL_law_1126 : decode cL_law 1126 = .ok (.istore 5, 2) := dk_54 (by decide +kernel)
theorem dL_law_1128 : decode cL_law 1128 = .ok (.aload_n 2, 1) := dk_44 (by decide +kernel)
theorem dL_law_1129 : decode cL_law 1129 = .ok (.aload_n 0, 1) := dk_42 (by decide +kernel)
theorem dL_law_1130 : decode cL_law 1130 = .ok (.iload 4, 2) := dk_21 (by decide +kernel)
theorem dL_law_1132 : decode cL_law 1132 = .ok (.iconst 1, 1) := dk_4 (by decide +kernel)
theorem dL_law_1133 : decode cL_law 1133 = .ok (.iadd, 1) := dk_96 (by decide +kernel)
theorem dL_law_1134 : decode cL_law 1134 = .ok (.iaload, 1) := dk_46 (by decide +kernel)
theorem dL_law_1135 : decode cL_law 1135 = .ok (.aload_n 0, 1) := dk_42 (by decide +kernel)
theorem dL_law_1136 : decode cL_law 1136 = .ok (.iload 4, 2) := dk_21 (by decide +kernel)
theorem dL_law_1138 : decode cL_law 1138 = .ok (.iconst 2, 1) := dk_5 (by decide +kernel)
theorem dL_law_1139 : decode cL_law 1139 = .ok (.iadd, 1) := dk_96 (by decide +kernel)
theorem dL_law_1140 : decode cL_law 1140 = .ok (.iaload, 1) := dk_46 (by decide +kernel)
theorem dL_law_1141 : decode cL_law 1141 = .ok (.aload_n 0, 1) := dk_42 (by decide +kernel)
theorem dL_law_1142 : decode cL_law 1142 = .ok (.iload 4, 2) := dk_21 (by decide +kernel)
theorem dL_law_1144 : decode cL_law 1144 = .ok (.iconst 3, 1) := dk_6 (by decide +kernel)
theorem dL_law_1145 : decode cL_law 1145 = .ok (.iadd, 1) := dk_96 (by decide +kernel)
theorem dL_law_1146 : decode cL_law 1146 = .ok (.iaload, 1) := dk_46 (by decide +kernel)
theorem dL_law_1147 : decode cL_law 1147 = .ok (.invokevirtual 202, 3) := dk_182 (by decide +kernel)
theorem dL_law_1150 : decode cL_law 1150 = .ok (.istore 6, 2) := dk_54 (by decide +kernel)
theorem dL_law_1152 : decode cL_law 1152 = .ok (.goto 355, 3) := dk_167 (by decide +kernel)
theorem dL_law_1155 : decode cL_law 1155 = .ok (.aload_n 1, 1) := dk_43 (by decide +kernel)
theorem dL_law_1156 : decode cL_law 1156 = .ok (.invokevirtual 203, 3) := dk_182 (by decide +kernel)
theorem dL_law_1159 : decode cL_law 1159 = .ok (.pop, 1) := dk_87 (by decide +kernel)
theorem dL_law_1160 : decode cL_law 1160 = .ok (.aload_n 2, 1) := dk_44 (by decide +kernel)
theorem dL_law_1161 : decode cL_law 1161 = .ok (.invokevirtual 207, 3) := dk_182 (by decide +kernel)
theorem dL_law_1164 : decode cL_law 1164 = .ok (.pop, 1) := dk_87 (by decide +kernel)
theorem dL_law_1165 : decode cL_law 1165 = .ok (.goto 342, 3) := dk_167 (by decide +kernel)
theorem dL_law_1168 : decode cL_law 1168 = .ok (.aload_n 1, 1) := dk_43 (by decide +kernel)
theorem dL_law_1169 : decode cL_law 1169 = .ok (.aload_n 0, 1) := dk_42 (by decide +kernel)
theorem dL_law_1170 : decode cL_law 1170 = .ok (.iload 4, 2) := dk_21 (by decide +kernel)
theorem dL_law_1172 : decode cL_law 1172 = .ok (.iconst 1, 1) := dk_4 (by decide +kernel)
theorem dL_law_1173 : decode cL_law 1173 = .ok (.iadd, 1) := dk_96 (by decide +kernel)
theorem dL_law_1174 : decode cL_law 1174 = .ok (.iaload, 1) := dk_46 (by decide +kernel)
theorem dL_law_1175 : decode cL_law 1175 = .ok (.invokevirtual 208, 3) := dk_182 (by decide +kernel)
theorem dL_law_1178 : decode cL_law 1178 = .ok (.pop, 1) := dk_87 (by decide +kernel)
theorem dL_law_1179 : decode cL_law 1179 = .ok (.aload_n 2, 1) := dk_44 (by decide +kernel)
theorem dL_law_1180 : decode cL_law 1180 = .ok (.aload_n 0, 1) := dk_42 (by decide +kernel)
theorem dL_law_1181 : decode cL_law 1181 = .ok (.iload 4, 2) := dk_21 (by decide +kernel)
theorem dL_law_1183 : decode cL_law 1183 = .ok (.iconst 1, 1) := dk_4 (by decide +kernel)
theorem dL_law_1184 : decode cL_law 1184 = .ok (.iadd, 1) := dk_96 (by decide +kernel)
theorem dL_law_1185 : decode cL_law 1185 = .ok (.iaload, 1) := dk_46 (by decide +kernel)
theorem dL_law_1186 : decode cL_law 1186 = .ok (.invokevirtual 211, 3) := dk_182 (by decide +kernel)
theorem dL_law_1189 : decode cL_law 1189 = .ok (.pop, 1) := dk_87 (by decide +kernel)
theorem dL_law_1190 : decode cL_law 1190 = .ok (.goto 317, 3) := dk_167 (by decide +kernel)
theorem dL_law_1193 : decode cL_law 1193 = .ok (.aload_n 1, 1) := dk_43 (by decide +kernel)
theorem dL_law_1194 : decode cL_law 1194 = .ok (.aload_n 0, 1) := dk_42 (by decide +kernel)
theorem dL_law_1195 : decode cL_law 1195 = .ok (.iload 4, 2) := dk_21 (by decide +kernel)
theorem dL_law_1197 : decode cL_law 1197 = .ok (.iconst 1, 1) := dk_4 (by decide +kernel)
theorem dL_law_1198 : decode cL_law 1198 = .ok (.iadd, 1) := dk_96 (by decide +kernel)
theorem dL_law_1199 : decode cL_law 1199 = .ok (.iaload, 1) := dk_46 (by decide +kernel)
theorem dL_law_1200 : decode cL_law 1200 = .ok (.aload_n 0, 1) := dk_42 (by decide +kernel)
theorem dL_law_1201 : decode cL_law 1201 = .ok (.iload 4, 2) := dk_21 (by decide +kernel)
theorem dL_law_1203 : decode cL_law 1203 = .ok (.iconst 2, 1) := dk_5 (by decide +kernel)
theorem dL_law_1204 : decode cL_law 1204 = .ok (.iadd, 1) := dk_96 (by decide +kernel)
theorem dL_law_1205 : decode cL_law 1205 = .ok (.iaload, 1) := dk_46 (by decide +kernel)
theorem dL_law_1206 : decode cL_law 1206 = .ok (.aload_n 0, 1) := dk_42 (by decide +kernel)
theorem dL_law_1207 : decode cL_law 1207 = .ok (.iload 4, 2) := dk_21 (by decide +kernel)
theorem dL_law_1209 : decode cL_law 1209 = .ok (.iconst 3, 1) := dk_6 (by decide +kernel)
theorem dL_law_1210 : decode cL_law 1210 = .ok (.iadd, 1) := dk_96 (by decide +kernel)
theorem dL_law_1211 : decode cL_law 1211 = .ok (.iaload, 1) := dk_46 (by decide +kernel)
theorem dL_law_1212 : decode cL_law 1212 = .ok (.aload_n 0, 1) := dk_42 (by decide +kernel)
theorem dL_law_1213 : decode cL_law 1213 = .ok (.iload 4, 2) := dk_21 (by decide +kernel)
theorem dL_law_1215 : decode cL_law 1215 = .ok (.iconst 4, 1) := dk_7 (by decide +kernel)
theorem dL_law_1216 : decode cL_law 1216 = .ok (.iadd, 1) := dk_96 (by decide +kernel)
theorem dL_law_1217 : decode cL_law 1217 = .ok (.iaload, 1) := dk_46 (by decide +kernel)
theorem dL_law_1218 : decode cL_law 1218 = .ok (.aload_n 3, 1) := dk_45 (by decide +kernel)
theorem dL_law_1219 : decode cL_law 1219 = .ok (.invokestatic 212, 3) := dk_184 (by decide +kernel)
theorem dL_law_1222 : decode cL_law 1222 = .ok (.istore 5, 2) := dk_54 (by decide +kernel)
theorem dL_law_1224 : decode cL_law 1224 = .ok (.aload_n 2, 1) := dk_44 (by decide +kernel)
theorem dL_law_1225 : decode cL_law 1225 = .ok (.aload_n 0, 1) := dk_42 (by decide +kernel)
theorem dL_law_1226 : decode cL_law 1226 = .ok (.iload 4, 2) := dk_21 (by decide +kernel)
theorem dL_law_1228 : decode cL_law 1228 = .ok (.iconst 1, 1) := dk_4 (by decide +kernel)
theorem dL_law_1229 : decode cL_law 1229 = .ok (.iadd, 1) := dk_96 (by decide +kernel)
theorem dL_law_1230 : decode cL_law 1230 = .ok (.iaload, 1) := dk_46 (by decide +kernel)
theorem dL_law_1231 : decode cL_law 1231 = .ok (.aload_n 0, 1) := dk_42 (by decide +kernel)
theorem dL_law_1232 : decode cL_law 1232 = .ok (.iload 4, 2) := dk_21 (by decide +kernel)
theorem dL_law_1234 : decode cL_law 1234 = .ok (.iconst 2, 1) := dk_5 (by decide +kernel)
theorem dL_law_1235 : decode cL_law 1235 = .ok (.iadd, 1) := dk_96 (by decide +kernel)
theorem dL_law_1236 : decode cL_law 1236 = .ok (.iaload, 1) := dk_46 (by decide +kernel)
theorem dL_law_1237 : decode cL_law 1237 = .ok (.aload_n 0, 1) := dk_42 (by decide +kernel)
theorem dL_law_1238 : decode cL_law 1238 = .ok (.iload 4, 2) := dk_21 (by decide +kernel)
theorem dL_law_1240 : decode cL_law 1240 = .ok (.iconst 3, 1) := dk_6 (by decide +kernel)
theorem dL_law_1241 : decode cL_law 1241 = .ok (.iadd, 1) := dk_96 (by decide +kernel)
theorem dL_law_1242 : decode cL_law 1242 = .ok (.iaload, 1) := dk_46 (by decide +kernel)
theorem dL_law_1243 : decode cL_law 1243 = .ok (.aload_n 0, 1) := dk_42 (by decide +kernel)
theorem dL_law_1244 : decode cL_law 1244 = .ok (.iload 4, 2) := dk_21 (by decide +kernel)
theorem dL_law_1246 : decode cL_law 1246 = .ok (.iconst 4, 1) := dk_7 (by decide +kernel)
theorem dL_law_1247 : decode cL_law 1247 = .ok (.iadd, 1) := dk_96 (by decide +kernel)
theorem dL_law_1248 : decode cL_law 1248 = .ok (.iaload, 1) := dk_46 (by decide +kernel)
theorem dL_law_1249 : decode cL_law 1249 = .ok (.invokevirtual 214, 3) := dk_182 (by decide +kernel)
theorem dL_law_1252 : decode cL_law 1252 = .ok (.istore 6, 2) := dk_54 (by decide +kernel)
theorem dL_law_1254 : decode cL_law 1254 = .ok (.goto 253, 3) := dk_167 (by decide +kernel)
theorem dL_law_1257 : decode cL_law 1257 = .ok (.aload_n 1, 1) := dk_43 (by decide +kernel)
theorem dL_law_1258 : decode cL_law 1258 = .ok (.invokevirtual 215, 3) := dk_182 (by decide +kernel)
theorem dL_law_1261 : decode cL_law 1261 = .ok (.pop, 1) := dk_87 (by decide +kernel)
theorem dL_law_1262 : decode cL_law 1262 = .ok (.aload_n 2, 1) := dk_44 (by decide +kernel)
theorem dL_law_1263 : decode cL_law 1263 = .ok (.invokevirtual 218, 3) := dk_182 (by decide +kernel)
theorem dL_law_1266 : decode cL_law 1266 = .ok (.pop, 1) := dk_87 (by decide +kernel)
theorem dL_law_1267 : decode cL_law 1267 = .ok (.goto 240, 3) := dk_167 (by decide +kernel)
theorem dL_law_1270 : decode cL_law 1270 = .ok (.aload_n 1, 1) := dk_43 (by decide +kernel)
theorem dL_law_1271 : decode cL_law 1271 = .ok (.aload_n 0, 1) := dk_42 (by decide +kernel)
theorem dL_law_1272 : decode cL_law 1272 = .ok (.iload 4, 2) := dk_21 (by decide +kernel)
theorem dL_law_1274 : decode cL_law 1274 = .ok (.iconst 1, 1) := dk_4 (by decide +kernel)
theorem dL_law_1275 : decode cL_law 1275 = .ok (.iadd, 1) := dk_96 (by decide +kernel)
theorem dL_law_1276 : decode cL_law 1276 = .ok (.iaload, 1) := dk_46 (by decide +kernel)
theorem dL_law_1277 : decode cL_law 1277 = .ok (.aload_n 0, 1) := dk_42 (by decide +kernel)
theorem dL_law_1278 : decode cL_law 1278 = .ok (.iload 4, 2) := dk_21 (by decide +kernel)
theorem dL_law_1280 : decode cL_law 1280 = .ok (.iconst 2, 1) := dk_5 (by decide +kernel)
theorem dL_law_1281 : decode cL_law 1281 = .ok (.iadd, 1) := dk_96 (by decide +kernel)
theorem dL_law_1282 : decode cL_law 1282 = .ok (.iaload, 1) := dk_46 (by decide +kernel)
theorem dL_law_1283 : decode cL_law 1283 = .ok (.aload_n 3, 1) := dk_45 (by decide +kernel)
theorem dL_law_1284 : decode cL_law 1284 = .ok (.invokestatic 219, 3) := dk_184 (by decide +kernel)
theorem dL_law_1287 : decode cL_law 1287 = .ok (.istore 5, 2) := dk_54 (by decide +kernel)
theorem dL_law_1289 : decode cL_law 1289 = .ok (.aload_n 2, 1) := dk_44 (by decide +kernel)
theorem dL_law_1290 : decode cL_law 1290 = .ok (.aload_n 0, 1) := dk_42 (by decide +kernel)
theorem dL_law_1291 : decode cL_law 1291 = .ok (.iload 4, 2) := dk_21 (by decide +kernel)
theorem dL_law_1293 : decode cL_law 1293 = .ok (.iconst 1, 1) := dk_4 (by decide +kernel)
theorem dL_law_1294 : decode cL_law 1294 = .ok (.iadd, 1) := dk_96 (by decide +kernel)
theorem dL_law_1295 : decode cL_law 1295 = .ok (.iaload, 1) := dk_46 (by decide +kernel)
theorem dL_law_1296 : decode cL_law 1296 = .ok (.aload_n 0, 1) := dk_42 (by decide +kernel)
theorem dL_law_1297 : decode cL_law 1297 = .ok (.iload 4, 2) := dk_21 (by decide +kernel)
theorem dL_law_1299 : decode cL_law 1299 = .ok (.iconst 2, 1) := dk_5 (by decide +kernel)
theorem dL_law_1300 : decode cL_law 1300 = .ok (.iadd, 1) := dk_96 (by decide +kernel)
theorem dL_law_1301 : decode cL_law 1301 = .ok (.iaload, 1) := dk_46 (by decide +kernel)
theorem dL_law_1302 : decode cL_law 1302 = .ok (.invokevirtual 221, 3) := dk_182 (by decide +kernel)
theorem dL_law_1305 : decode cL_law 1305 = .ok (.istore 6, 2) := dk_54 (by decide +kernel)
theorem dL_law_1307 : decode cL_law 1307 = .ok (.goto 200, 3) := dk_167 (by decide +kernel)
theorem dL_law_1310 : decode cL_law 1310 = .ok (.aload_n 1, 1) := dk_43 (by decide +kernel)
theorem dL_law_1311 : decode cL_law 1311 = .ok (.aload_n 0, 1) := dk_42 (by decide +kernel)
theorem dL_law_1312 : decode cL_law 1312 = .ok (.iload 4, 2) := dk_21 (by decide +kernel)
theorem dL_law_1314 : decode cL_law 1314 = .ok (.iconst 1, 1) := dk_4 (by decide +kernel)
theorem dL_law_1315 : decode cL_law 1315 = .ok (.iadd, 1) := dk_96 (by decide +kernel)
theorem dL_law_1316 : decode cL_law 1316 = .ok (.iaload, 1) := dk_46 (by decide +kernel)
theorem dL_law_1317 : decode cL_law 1317 = .ok (.aload_n 0, 1) := dk_42 (by decide +kernel)
theorem dL_law_1318 : decode cL_law 1318 = .ok (.iload 4, 2) := dk_21 (by decide +kernel)
theorem dL_law_1320 : decode cL_law 1320 = .ok (.iconst 2, 1) := dk_5 (by decide +kernel)
theorem dL_law_1321 : decode cL_law 1321 = .ok (.iadd, 1) := dk_96 (by decide +kernel)
theorem dL_law_1322 : decode cL_law 1322 = .ok (.iaload, 1) := dk_46 (by decide +kernel)
theorem dL_law_1323 : decode cL_law 1323 = .ok (.aload_n 3, 1) := dk_45 (by decide +kernel)
theorem dL_law_1324 : decode cL_law 1324 = .ok (.invokestatic 222, 3) := dk_184 (by decide +kernel)
theorem dL_law_1327 : decode cL_law 1327 = .ok (.istore 5, 2) := dk_54 (by decide +kernel)
theorem dL_law_1329 : decode cL_law 1329 = .ok (.aload_n 2, 1) := dk_44 (by decide +kernel)
theorem dL_law_1330 : decode cL_law 1330 = .ok (.aload_n 0, 1) := dk_42 (by decide +kernel)
theorem dL_law_1331 : decode cL_law 1331 = .ok (.iload 4, 2) := dk_21 (by decide +kernel)
theorem dL_law_1333 : decode cL_law 1333 = .ok (.iconst 1, 1) := dk_4 (by decide +kernel)
theorem dL_law_1334 : decode cL_law 1334 = .ok (.iadd, 1) := dk_96 (by decide +kernel)
theorem dL_law_1335 : decode cL_law 1335 = .ok (.iaload, 1) := dk_46 (by decide +kernel)
theorem dL_law_1336 : decode cL_law 1336 = .ok (.aload_n 0, 1) := dk_42 (by decide +kernel)
theorem dL_law_1337 : decode cL_law 1337 = .ok (.iload 4, 2) := dk_21 (by decide +kernel)
theorem dL_law_1339 : decode cL_law 1339 = .ok (.iconst 2, 1) := dk_5 (by decide +kernel)
theorem dL_law_1340 : decode cL_law 1340 = .ok (.iadd, 1) := dk_96 (by decide +kernel)
theorem dL_law_1341 : decode cL_law 1341 = .ok (.iaload, 1) := dk_46 (by decide +kernel)
theorem dL_law_1342 : decode cL_law 1342 = .ok (.invokevirtual 224, 3) := dk_182 (by decide +kernel)
theorem dL_law_1345 : decode cL_law 1345 = .ok (.istore 6, 2) := dk_54 (by decide +kernel)
theorem dL_law_1347 : decode cL_law 1347 = .ok (.goto 160, 3) := dk_167 (by decide +kernel)
theorem dL_law_1350 : decode cL_law 1350 = .ok (.aload_n 1, 1) := dk_43 (by decide +kernel)
theorem dL_law_1351 : decode cL_law 1351 = .ok (.aload_n 0, 1) := dk_42 (by decide +kernel)
theorem dL_law_1352 : decode cL_law 1352 = .ok (.iload 4, 2) := dk_21 (by decide +kernel)
theorem dL_law_1354 : decode cL_law 1354 = .ok (.iconst 1, 1) := dk_4 (by decide +kernel)
theorem dL_law_1355 : decode cL_law 1355 = .ok (.iadd, 1) := dk_96 (by decide +kernel)
theorem dL_law_1356 : decode cL_law 1356 = .ok (.iaload, 1) := dk_46 (by decide +kernel)
theorem dL_law_1357 : decode cL_law 1357 = .ok (.aload_n 0, 1) := dk_42 (by decide +kernel)
theorem dL_law_1358 : decode cL_law 1358 = .ok (.iload 4, 2) := dk_21 (by decide +kernel)
theorem dL_law_1360 : decode cL_law 1360 = .ok (.iconst 2, 1) := dk_5 (by decide +kernel)
theorem dL_law_1361 : decode cL_law 1361 = .ok (.iadd, 1) := dk_96 (by decide +kernel)
theorem dL_law_1362 : decode cL_law 1362 = .ok (.iaload, 1) := dk_46 (by decide +kernel)
theorem dL_law_1363 : decode cL_law 1363 = .ok (.aload_n 0, 1) := dk_42 (by decide +kernel)
theorem dL_law_1364 : decode cL_law 1364 = .ok (.iload 4, 2) := dk_21 (by decide +kernel)
theorem dL_law_1366 : decode cL_law 1366 = .ok (.iconst 3, 1) := dk_6 (by decide +kernel)
theorem dL_law_1367 : decode cL_law 1367 = .ok (.iadd, 1) := dk_96 (by decide +kernel)
theorem dL_law_1368 : decode cL_law 1368 = .ok (.iaload, 1) := dk_46 (by decide +kernel)
theorem dL_law_1369 : decode cL_law 1369 = .ok (.aload_n 3, 1) := dk_45 (by decide +kernel)
theorem dL_law_1370 : decode cL_law 1370 = .ok (.invokestatic 225, 3) := dk_184 (by decide +kernel)
theorem dL_law_1373 : decode cL_law 1373 = .ok (.istore 5, 2) := dk_54 (by decide +kernel)
theorem dL_law_1375 : decode cL_law 1375 = .ok (.aload_n 2, 1) := dk_44 (by decide +kernel)
theorem dL_law_1376 : decode cL_law 1376 = .ok (.aload_n 0, 1) := dk_42 (by decide +kernel)
theorem dL_law_1377 : decode cL_law 1377 = .ok (.iload 4, 2) := dk_21 (by decide +kernel)
theorem dL_law_1379 : decode cL_law 1379 = .ok (.iconst 1, 1) := dk_4 (by decide +kernel)
theorem dL_law_1380 : decode cL_law 1380 = .ok (.iadd, 1) := dk_96 (by decide +kernel)
theorem dL_law_1381 : decode cL_law 1381 = .ok (.iaload, 1) := dk_46 (by decide +kernel)
theorem dL_law_1382 : decode cL_law 1382 = .ok (.aload_n 0, 1) := dk_42 (by decide +kernel)
theorem dL_law_1383 : decode cL_law 1383 = .ok (.iload 4, 2) := dk_21 (by decide +kernel)
theorem dL_law_1385 : decode cL_law 1385 = .ok (.iconst 2, 1) := dk_5 (by decide +kernel)
theorem dL_law_1386 : decode cL_law 1386 = .ok (.iadd, 1) := dk_96 (by decide +kernel)
theorem dL_law_1387 : decode cL_law 1387 = .ok (.iaload, 1) := dk_46 (by decide +kernel)
theorem dL_law_1388 : decode cL_law 1388 = .ok (.aload_n 0, 1) := dk_42 (by decide +kernel)
theorem dL_law_1389 : decode cL_law 1389 = .ok (.iload 4, 2) := dk_21 (by decide +kernel)
theorem dL_law_1391 : decode cL_law 1391 = .ok (.iconst 3, 1) := dk_6 (by decide +kernel)
theorem dL_law_1392 : decode cL_law 1392 = .ok (.iadd, 1) := dk_96 (by decide +kernel)
theorem dL_law_1393 : decode cL_law 1393 = .ok (.iaload, 1) := dk_46 (by decide +kernel)
theorem dL_law_1394 : decode cL_law 1394 = .ok (.invokevirtual 227, 3) := dk_182 (by decide +kernel)
theorem dL_law_1397 : decode cL_law 1397 = .ok (.istore 6, 2) := dk_54 (by decide +kernel)
theorem dL_law_1399 : decode cL_law 1399 = .ok (.goto 108, 3) := dk_167 (by decide +kernel)
theorem dL_law_1402 : decode cL_law 1402 = .ok (.aload_n 1, 1) := dk_43 (by decide +kernel)
theorem dL_law_1403 : decode cL_law 1403 = .ok (.aload_n 0, 1) := dk_42 (by decide +kernel)
theorem dL_law_1404 : decode cL_law 1404 = .ok (.iload 4, 2) := dk_21 (by decide +kernel)
theorem dL_law_1406 : decode cL_law 1406 = .ok (.iconst 1, 1) := dk_4 (by decide +kernel)
theorem dL_law_1407 : decode cL_law 1407 = .ok (.iadd, 1) := dk_96 (by decide +kernel)
theorem dL_law_1408 : decode cL_law 1408 = .ok (.iaload, 1) := dk_46 (by decide +kernel)
theorem dL_law_1409 : decode cL_law 1409 = .ok (.aload_n 0, 1) := dk_42 (by decide +kernel)
theorem dL_law_1410 : decode cL_law 1410 = .ok (.iload 4, 2) := dk_21 (by decide +kernel)
theorem dL_law_1412 : decode cL_law 1412 = .ok (.iconst 2, 1) := dk_5 (by decide +kernel)
theorem dL_law_1413 : decode cL_law 1413 = .ok (.iadd, 1) := dk_96 (by decide +kernel)
theorem dL_law_1414 : decode cL_law 1414 = .ok (.iaload, 1) := dk_46 (by decide +kernel)
theorem dL_law_1415 : decode cL_law 1415 = .ok (.aload_n 0, 1) := dk_42 (by decide +kernel)
theorem dL_law_1416 : decode cL_law 1416 = .ok (.iload 4, 2) := dk_21 (by decide +kernel)
theorem dL_law_1418 : decode cL_law 1418 = .ok (.iconst 3, 1) := dk_6 (by decide +kernel)
theorem dL_law_1419 : decode cL_law 1419 = .ok (.iadd, 1) := dk_96 (by decide +kernel)
theorem dL_law_1420 : decode cL_law 1420 = .ok (.iaload, 1) := dk_46 (by decide +kernel)
theorem dL_law_1421 : decode cL_law 1421 = .ok (.aload_n 3, 1) := dk_45 (by decide +kernel)
theorem dL_law_1422 : decode cL_law 1422 = .ok (.invokestatic 228, 3) := dk_184 (by decide +kernel)
theorem dL_law_1425 : decode cL_law 1425 = .ok (.istore 5, 2) := dk_54 (by decide +kernel)
theorem dL_law_1427 : decode cL_law 1427 = .ok (.aload_n 2, 1) := dk_44 (by decide +kernel)
theorem dL_law_1428 : decode cL_law 1428 = .ok (.aload_n 0, 1) := dk_42 (by decide +kernel)
theorem dL_law_1429 : decode cL_law 1429 = .ok (.iload 4, 2) := dk_21 (by decide +kernel)
theorem dL_law_1431 : decode cL_law 1431 = .ok (.iconst 1, 1) := dk_4 (by decide +kernel)
theorem dL_law_1432 : decode cL_law 1432 = .ok (.iadd, 1) := dk_96 (by decide +kernel)
theorem dL_law_1433 : decode cL_law 1433 = .ok (.iaload, 1) := dk_46 (by decide +kernel)
theorem dL_law_1434 : decode cL_law 1434 = .ok (.aload_n 0, 1) := dk_42 (by decide +kernel)
theorem dL_law_1435 : decode cL_law 1435 = .ok (.iload 4, 2) := dk_21 (by decide +kernel)
theorem dL_law_1437 : decode cL_law 1437 = .ok (.iconst 2, 1) := dk_5 (by decide +kernel)
theorem dL_law_1438 : decode cL_law 1438 = .ok (.iadd, 1) := dk_96 (by decide +kernel)
theorem dL_law_1439 : decode cL_law 1439 = .ok (.iaload, 1) := dk_46 (by decide +kernel)
theorem dL_law_1440 : decode cL_law 1440 = .ok (.aload_n 0, 1) := dk_42 (by decide +kernel)
theorem dL_law_1441 : decode cL_law 1441 = .ok (.iload 4, 2) := dk_21 (by decide +kernel)
theorem dL_law_1443 : decode cL_law 1443 = .ok (.iconst 3, 1) := dk_6 (by decide +kernel)
theorem dL_law_1444 : decode cL_law 1444 = .ok (.iadd, 1) := dk_96 (by decide +kernel)
theorem dL_law_1445 : decode cL_law 1445 = .ok (.iaload, 1) := dk_46 (by decide +kernel)
theorem dL_law_1446 : decode cL_law 1446 = .ok (.invokevirtual 230, 3) := dk_182 (by decide +kernel)
theorem dL_law_1449 : decode cL_law 1449 = .ok (.istore 6, 2) := dk_54 (by decide +kernel)
theorem dL_law_1451 : decode cL_law 1451 = .ok (.goto 56, 3) := dk_167 (by decide +kernel)
theorem dL_law_1454 : decode cL_law 1454 = .ok (.aload_n 1, 1) := dk_43 (by decide +kernel)
theorem dL_law_1455 : decode cL_law 1455 = .ok (.invokevirtual 231, 3) := dk_182 (by decide +kernel)
theorem dL_law_1458 : decode cL_law 1458 = .ok (.pop2, 1) := dk_88 (by decide +kernel)
theorem dL_law_1459 : decode cL_law 1459 = .ok (.aload_n 2, 1) := dk_44 (by decide +kernel)
theorem dL_law_1460 : decode cL_law 1460 = .ok (.invokevirtual 235, 3) := dk_182 (by decide +kernel)
theorem dL_law_1463 : decode cL_law 1463 = .ok (.pop2, 1) := dk_88 (by decide +kernel)
theorem dL_law_1464 : decode cL_law 1464 = .ok (.goto 43, 3) := dk_167 (by decide +kernel)
theorem dL_law_1467 : decode cL_law 1467 = .ok (.aload_n 1, 1) := dk_43 (by decide +kernel)
theorem dL_law_1468 : decode cL_law 1468 = .ok (.aload_n 0, 1) := dk_42 (by decide +kernel)
theorem dL_law_1469 : decode cL_law 1469 = .ok (.iload 4, 2) := dk_21 (by decide +kernel)
theorem dL_law_1471 : decode cL_law 1471 = .ok (.iconst 1, 1) := dk_4 (by decide +kernel)
theorem dL_law_1472 : decode cL_law 1472 = .ok (.iadd, 1) := dk_96 (by decide +kernel)
theorem dL_law_1473 : decode cL_law 1473 = .ok (.iaload, 1) := dk_46 (by decide +kernel)
theorem dL_law_1474 : decode cL_law 1474 = .ok (.aload_n 0, 1) := dk_42 (by decide +kernel)
theorem dL_law_1475 : decode cL_law 1475 = .ok (.iload 4, 2) := dk_21 (by decide +kernel)
theorem dL_law_1477 : decode cL_law 1477 = .ok (.iconst 2, 1) := dk_5 (by decide +kernel)
theorem dL_law_1478 : decode cL_law 1478 = .ok (.iadd, 1) := dk_96 (by decide +kernel)
theorem dL_law_1479 : decode cL_law 1479 = .ok (.iaload, 1) := dk_46 (by decide +kernel)
theorem dL_law_1480 : decode cL_law 1480 = .ok (.aload_n 3, 1) := dk_45 (by decide +kernel)
theorem dL_law_1481 : decode cL_law 1481 = .ok (.invokestatic 236, 3) := dk_184 (by decide +kernel)
theorem dL_law_1484 : decode cL_law 1484 = .ok (.istore 5, 2) := dk_54 (by decide +kernel)
theorem dL_law_1486 : decode cL_law 1486 = .ok (.aload_n 2, 1) := dk_44 (by decide +kernel)
theorem dL_law_1487 : decode cL_law 1487 = .ok (.aload_n 0, 1) := dk_42 (by decide +kernel)
theorem dL_law_1488 : decode cL_law 1488 = .ok (.iload 4, 2) := dk_21 (by decide +kernel)
theorem dL_law_1490 : decode cL_law 1490 = .ok (.iconst 1, 1) := dk_4 (by decide +kernel)
theorem dL_law_1491 : decode cL_law 1491 = .ok (.iadd, 1) := dk_96 (by decide +kernel)
theorem dL_law_1492 : decode cL_law 1492 = .ok (.iaload, 1) := dk_46 (by decide +kernel)
theorem dL_law_1493 : decode cL_law 1493 = .ok (.aload_n 0, 1) := dk_42 (by decide +kernel)
theorem dL_law_1494 : decode cL_law 1494 = .ok (.iload 4, 2) := dk_21 (by decide +kernel)
theorem dL_law_1496 : decode cL_law 1496 = .ok (.iconst 2, 1) := dk_5 (by decide +kernel)
theorem dL_law_1497 : decode cL_law 1497 = .ok (.iadd, 1) := dk_96 (by decide +kernel)
theorem dL_law_1498 : decode cL_law 1498 = .ok (.iaload, 1) := dk_46 (by decide +kernel)
theorem dL_law_1499 : decode cL_law 1499 = .ok (.invokevirtual 238, 3) := dk_182 (by decide +kernel)
theorem dL_law_1502 : decode cL_law 1502 = .ok (.istore 6, 2) := dk_54 (by decide +kernel)
theorem dL_law_1504 : decode cL_law 1504 = .ok (.goto 3, 3) := dk_167 (by decide +kernel)
set_option maxRecDepth 100000 in
theorem gl_C_feed : GoodIn lw_tbl (wsV RL 92 RX11 yX11_feed wsU_feed) := goodIn_sub (mV (gm_0 _ (List.mem_of_getElem? (i := 0) rfl)) (gm_0 _ (List.mem_of_getElem? (i := 1) rfl)) (gm_0 _ (List.mem_of_getElem? (i := 2) rfl)) (gm_0 _ (List.mem_of_getElem? (i := 3) rfl)) ml_wsU_feed) (gdV (by decide +kernel) gdwsU_feed)
set_option maxRecDepth 100000 in
theorem gl_R_feed : GoodIn lw_tbl (wsV RL 96 RX12 yX12_feed wsRX12_feed) := goodIn_sub (mV (gm_0 _ (List.mem_of_getElem? (i := 5) rfl)) (gm_0 _ (List.mem_of_getElem? (i := 6) rfl)) (gm_0 _ (List.mem_of_getElem? (i := 7) rfl)) (gm_0 _ (List.mem_of_getElem? (i := 8) rfl)) ml_wsRX12_feed) (gdV (by decide +kernel) gdwsRX12_feed)
set_option maxRecDepth 100000 in
theorem gl_C_end : GoodIn lw_tbl (wsV RL 97 RX11 yX11_end wsU_end) := goodIn_sub (mV (gm_0 _ (List.mem_of_getElem? (i := 11) rfl)) (gm_0 _ (List.mem_of_getElem? (i := 12) rfl)) (gm_0 _ (List.mem_of_getElem? (i := 13) rfl)) (gm_0 _ (List.mem_of_getElem? (i := 3) rfl)) ml_wsU_end) (gdV (by decide +kernel) gdwsU_end)
set_option maxRecDepth 100000 in
theorem gl_R_end : GoodIn lw_tbl (wsV RL 100 RX12 yX12_end wsRX12_end) := goodIn_sub (mV (gm_0 _ (List.mem_of_getElem? (i := 35) rfl)) (gm_0 _ (List.mem_of_getElem? (i := 36) rfl)) (gm_0 _ (List.mem_of_getElem? (i := 37) rfl)) (gm_0 _ (List.mem_of_getElem? (i := 8) rfl)) ml_wsRX12_end) (gdV (by decide +kernel) gdwsRX12_end)
set_option maxRecDepth 100000 in
theorem gl_C_wipe : GoodIn lw_tbl (wsV RL 101 RX11 yX11_wipe wsU_wipe) := goodIn_sub (mV (gm_1 _ (List.mem_of_getElem? (i := 0) rfl)) (gm_1 _ (List.mem_of_getElem? (i := 1) rfl)) (gm_1 _ (List.mem_of_getElem? (i := 2) rfl)) (gm_0 _ (List.mem_of_getElem? (i := 3) rfl)) ml_wsU_wipe) (gdV (by decide +kernel) gdwsU_wipe)
set_option maxRecDepth 100000 in
theorem gl_R_wipe : GoodIn lw_tbl (wsV RL 104 RX12 yX12_wipe wsRX12_wipe) := goodIn_sub (mV (gm_1 _ (List.mem_of_getElem? (i := 3) rfl)) (gm_1 _ (List.mem_of_getElem? (i := 4) rfl)) (gm_1 _ (List.mem_of_getElem? (i := 5) rfl)) (gm_0 _ (List.mem_of_getElem? (i := 8) rfl)) ml_wsRX12_wipe) (gdV (by decide +kernel) gdwsRX12_wipe)
set_option maxRecDepth 100000 in
theorem gl_H_read : GoodIn lw_tbl (va_wsS RL 105 yL_read wsH_read) := goodIn_sub (mS (gm_1 _ (List.mem_of_getElem? (i := 6) rfl)) (gm_1 _ (List.mem_of_getElem? (i := 7) rfl)) (show Cond.initialized "OptimaWorksLaw" ∈ lw_tbl from (gm_1 _ (List.mem_of_getElem? (i := 8) rfl))) ml_wsH_read) (gdA (by decide +kernel) gdwsH_read)
set_option maxRecDepth 100000 in
theorem gl_R_read : GoodIn lw_tbl (wsV RL 110 RX12 yX12_read wsRX12_read) := goodIn_sub (mV (gm_11 _ (List.mem_of_getElem? (i := 39) rfl)) (gm_12 _ (List.mem_of_getElem? (i := 0) rfl)) (gm_12 _ (List.mem_of_getElem? (i := 1) rfl)) (gm_0 _ (List.mem_of_getElem? (i := 8) rfl)) ml_wsRX12_read) (gdV (by decide +kernel) gdwsRX12_read)
set_option maxRecDepth 100000 in
theorem gl_C_fault : GoodIn lw_tbl (wsV RL 111 RX11 yX11_fault wsU_fault) := goodIn_sub (mV (gm_21 _ (List.mem_of_getElem? (i := 0) rfl)) (gm_21 _ (List.mem_of_getElem? (i := 1) rfl)) (gm_21 _ (List.mem_of_getElem? (i := 2) rfl)) (gm_0 _ (List.mem_of_getElem? (i := 3) rfl)) ml_wsU_fault) (gdV (by decide +kernel) gdwsU_fault)
set_option maxRecDepth 100000 in
theorem gl_R_fault : GoodIn lw_tbl (wsV RL 114 RX12 yX12_fault wsRX12_fault) := goodIn_sub (mV (gm_21 _ (List.mem_of_getElem? (i := 5) rfl)) (gm_21 _ (List.mem_of_getElem? (i := 6) rfl)) (gm_21 _ (List.mem_of_getElem? (i := 7) rfl)) (gm_0 _ (List.mem_of_getElem? (i := 8) rfl)) ml_wsRX12_fault) (gdV (by decide +kernel) gdwsRX12_fault)
set_option maxRecDepth 100000 in
theorem gl_H_variable : GoodIn lw_tbl (va_wsS RL 115 yL_variable wsH_variable) := goodIn_sub (mS (gm_21 _ (List.mem_of_getElem? (i := 8) rfl)) (gm_21 _ (List.mem_of_getElem? (i := 9) rfl)) (show Cond.initialized "OptimaWorksLaw" ∈ lw_tbl from (gm_1 _ (List.mem_of_getElem? (i := 8) rfl))) ml_wsH_variable) (gdA (by decide +kernel) gdwsH_variable)
set_option maxRecDepth 100000 in
theorem gl_R_variable : GoodIn lw_tbl (wsV RL 118 RX12 yX12_variable wsRX12_variable) := goodIn_sub (mV (gm_21 _ (List.mem_of_getElem? (i := 19) rfl)) (gm_21 _ (List.mem_of_getElem? (i := 20) rfl)) (gm_21 _ (List.mem_of_getElem? (i := 21) rfl)) (gm_0 _ (List.mem_of_getElem? (i := 8) rfl)) ml_wsRX12_variable) (gdV (by decide +kernel) gdwsRX12_variable)
set_option maxRecDepth 100000 in
theorem gl_H_row : GoodIn lw_tbl (va_wsS RL 119 yL_row wsH_row) := goodIn_sub (mS (gm_21 _ (List.mem_of_getElem? (i := 22) rfl)) (gm_21 _ (List.mem_of_getElem? (i := 23) rfl)) (show Cond.initialized "OptimaWorksLaw" ∈ lw_tbl from (gm_1 _ (List.mem_of_getElem? (i := 8) rfl))) ml_wsH_row) (gdA (by decide +kernel) gdwsH_row)
set_option maxRecDepth 100000 in
theorem gl_R_row : GoodIn lw_tbl (wsV RL 122 RX12 yX12_row wsRX12_row) := goodIn_sub (mV (gm_21 _ (List.mem_of_getElem? (i := 36) rfl)) (gm_21 _ (List.mem_of_getElem? (i := 37) rfl)) (gm_21 _ (List.mem_of_getElem? (i := 38) rfl)) (gm_0 _ (List.mem_of_getElem? (i := 8) rfl)) ml_wsRX12_row) (gdV (by decide +kernel) gdwsRX12_row)
set_option maxRecDepth 100000 in
theorem gl_H_goal : GoodIn lw_tbl (va_wsS RL 123 yL_goal wsH_goal) := goodIn_sub (mS (gm_21 _ (List.mem_of_getElem? (i := 39) rfl)) (gm_22 _ (List.mem_of_getElem? (i := 0) rfl)) (show Cond.initialized "OptimaWorksLaw" ∈ lw_tbl from (gm_1 _ (List.mem_of_getElem? (i := 8) rfl))) ml_wsH_goal) (gdA (by decide +kernel) gdwsH_goal)
set_option maxRecDepth 100000 in
theorem gl_R_goal : GoodIn lw_tbl (wsV RL 126 RX12 yX12_goal wsRX12_goal) := goodIn_sub (mV (gm_22 _ (List.mem_of_getElem? (i := 8) rfl)) (gm_22 _ (List.mem_of_getElem? (i := 9) rfl)) (gm_22 _ (List.mem_of_getElem? (i := 10) rfl)) (gm_0 _ (List.mem_of_getElem? (i := 8) rfl)) ml_wsRX12_goal) (gdV (by decide +kernel) gdwsRX12_goal)
set_option maxRecDepth 100000 in
theorem gl_H_write : GoodIn lw_tbl (va_wsS RL 127 yL_write wsH_write) := goodIn_sub (mS (gm_22 _ (List.mem_of_getElem? (i := 11) rfl)) (gm_22 _ (List.mem_of_getElem? (i := 12) rfl)) (show Cond.initialized "OptimaWorksLaw" ∈ lw_tbl from (gm_1 _ (List.mem_of_getElem? (i := 8) rfl))) ml_wsH_write) (gdA (by decide +kernel) gdwsH_write)
set_option maxRecDepth 100000 in
theorem gl_R_write : GoodIn lw_tbl (wsV RL 129 RX12 yX12_write wsRX12_write) := goodIn_sub (mV (gm_23 _ (List.mem_of_getElem? (i := 22) rfl)) (gm_23 _ (List.mem_of_getElem? (i := 23) rfl)) (gm_23 _ (List.mem_of_getElem? (i := 24) rfl)) (gm_0 _ (List.mem_of_getElem? (i := 8) rfl)) ml_wsRX12_write) (gdV (by decide +kernel) gdwsRX12_write)
set_option maxRecDepth 100000 in
theorem gl_H_solve : GoodIn lw_tbl (va_wsS RL 130 yL_solve wsH_solve) := goodIn_sub (mS (gm_24 _ (List.mem_of_getElem? (i := 13) rfl)) (gm_24 _ (List.mem_of_getElem? (i := 14) rfl)) (show Cond.initialized "OptimaWorksLaw" ∈ lw_tbl from (gm_1 _ (List.mem_of_getElem? (i := 8) rfl))) ml_wsH_solve) (gdA (by decide +kernel) gdwsH_solve)
set_option maxRecDepth 100000 in
theorem gl_R_solve : GoodIn lw_tbl (wsV RL 133 RX12 yX12_solve wsRX12_solve) := goodIn_sub (mV (gm_30 _ (List.mem_of_getElem? (i := 37) rfl)) (gm_30 _ (List.mem_of_getElem? (i := 38) rfl)) (gm_30 _ (List.mem_of_getElem? (i := 39) rfl)) (gm_0 _ (List.mem_of_getElem? (i := 8) rfl)) ml_wsRX12_solve) (gdV (by decide +kernel) gdwsRX12_solve)
set_option maxRecDepth 100000 in
theorem gl_H_value : GoodIn lw_tbl (va_wsS RL 134 yL_value wsH_value) := goodIn_sub (mS (gm_34 _ (List.mem_of_getElem? (i := 7) rfl)) (gm_34 _ (List.mem_of_getElem? (i := 8) rfl)) (show Cond.initialized "OptimaWorksLaw" ∈ lw_tbl from (gm_1 _ (List.mem_of_getElem? (i := 8) rfl))) ml_wsH_value) (gdA (by decide +kernel) gdwsH_value)
set_option maxRecDepth 100000 in
theorem gl_R_value : GoodIn lw_tbl (wsV RL 137 RX12 yX12_value wsRX12_value) := goodIn_sub (mV (gm_35 _ (List.mem_of_getElem? (i := 1) rfl)) (gm_35 _ (List.mem_of_getElem? (i := 2) rfl)) (gm_35 _ (List.mem_of_getElem? (i := 3) rfl)) (gm_0 _ (List.mem_of_getElem? (i := 8) rfl)) ml_wsRX12_value) (gdV (by decide +kernel) gdwsRX12_value)
set_option maxRecDepth 100000 in
theorem gl_H_best : GoodIn lw_tbl (va_wsS RL 138 yL_best wsH_best) := goodIn_sub (mS (gm_35 _ (List.mem_of_getElem? (i := 18) rfl)) (gm_35 _ (List.mem_of_getElem? (i := 19) rfl)) (show Cond.initialized "OptimaWorksLaw" ∈ lw_tbl from (gm_1 _ (List.mem_of_getElem? (i := 8) rfl))) ml_wsH_best) (gdA (by decide +kernel) gdwsH_best)
set_option maxRecDepth 100000 in
theorem gl_R_best : GoodIn lw_tbl (wsV RL 140 RX12 yX12_best wsRX12_best) := goodIn_sub (mV (gm_35 _ (List.mem_of_getElem? (i := 29) rfl)) (gm_35 _ (List.mem_of_getElem? (i := 30) rfl)) (gm_35 _ (List.mem_of_getElem? (i := 31) rfl)) (gm_0 _ (List.mem_of_getElem? (i := 8) rfl)) ml_wsRX12_best) (gdV (by decide +kernel) gdwsRX12_best)
set_option maxRecDepth 100000 in
theorem gl_H_way : GoodIn lw_tbl (va_wsS RL 141 yL_way wsH_way) := goodIn_sub (mS (gm_35 _ (List.mem_of_getElem? (i := 32) rfl)) (gm_35 _ (List.mem_of_getElem? (i := 33) rfl)) (show Cond.initialized "OptimaWorksLaw" ∈ lw_tbl from (gm_1 _ (List.mem_of_getElem? (i := 8) rfl))) ml_wsH_way) (gdA (by decide +kernel) gdwsH_way)
set_option maxRecDepth 100000 in
theorem gl_R_way : GoodIn lw_tbl (wsV RL 143 RX12 yX12_way wsRX12_way) := goodIn_sub (mV (gm_36 _ (List.mem_of_getElem? (i := 0) rfl)) (gm_36 _ (List.mem_of_getElem? (i := 1) rfl)) (gm_36 _ (List.mem_of_getElem? (i := 2) rfl)) (gm_0 _ (List.mem_of_getElem? (i := 8) rfl)) ml_wsRX12_way) (gdV (by decide +kernel) gdwsRX12_way)
set_option maxRecDepth 100000 in
theorem gl_H_count : GoodIn lw_tbl (va_wsS RL 144 yL_count wsH_count) := goodIn_sub (mS (gm_36 _ (List.mem_of_getElem? (i := 3) rfl)) (gm_36 _ (List.mem_of_getElem? (i := 4) rfl)) (show Cond.initialized "OptimaWorksLaw" ∈ lw_tbl from (gm_1 _ (List.mem_of_getElem? (i := 8) rfl))) ml_wsH_count) (gdA (by decide +kernel) gdwsH_count)
set_option maxRecDepth 100000 in
theorem gl_R_count : GoodIn lw_tbl (wsV RL 146 RX12 yX12_count wsRX12_count) := goodIn_sub (mV (gm_36 _ (List.mem_of_getElem? (i := 11) rfl)) (gm_36 _ (List.mem_of_getElem? (i := 12) rfl)) (gm_36 _ (List.mem_of_getElem? (i := 13) rfl)) (gm_0 _ (List.mem_of_getElem? (i := 8) rfl)) ml_wsRX12_count) (gdV (by decide +kernel) gdwsRX12_count)
set_option maxRecDepth 100000 in
theorem gl_H_counted : GoodIn lw_tbl (va_wsS RL 147 yL_counted wsH_counted) := goodIn_sub (mS (gm_36 _ (List.mem_of_getElem? (i := 17) rfl)) (gm_36 _ (List.mem_of_getElem? (i := 18) rfl)) (show Cond.initialized "OptimaWorksLaw" ∈ lw_tbl from (gm_1 _ (List.mem_of_getElem? (i := 8) rfl))) ml_wsH_counted) (gdA (by decide +kernel) gdwsH_counted)
set_option maxRecDepth 100000 in
theorem gl_R_counted : GoodIn lw_tbl (wsV RL 149 RX12 yX12_counted wsRX12_counted) := goodIn_sub (mV (gm_36 _ (List.mem_of_getElem? (i := 25) rfl)) (gm_36 _ (List.mem_of_getElem? (i := 26) rfl)) (gm_36 _ (List.mem_of_getElem? (i := 27) rfl)) (gm_0 _ (List.mem_of_getElem? (i := 8) rfl)) ml_wsRX12_counted) (gdV (by decide +kernel) gdwsRX12_counted)
set_option maxRecDepth 100000 in
theorem gl_H_prove : GoodIn lw_tbl (va_wsS RL 150 yL_prove wsH_prove) := goodIn_sub (mS (gm_36 _ (List.mem_of_getElem? (i := 28) rfl)) (gm_36 _ (List.mem_of_getElem? (i := 29) rfl)) (show Cond.initialized "OptimaWorksLaw" ∈ lw_tbl from (gm_1 _ (List.mem_of_getElem? (i := 8) rfl))) ml_wsH_prove) (gdA (by decide +kernel) gdwsH_prove)
set_option maxRecDepth 100000 in
theorem gl_R_prove : GoodIn lw_tbl (wsV RL 152 RX12 yX12_prove wsRX12_prove) := goodIn_sub (mV (gm_39 _ (List.mem_of_getElem? (i := 35) rfl)) (gm_39 _ (List.mem_of_getElem? (i := 36) rfl)) (gm_39 _ (List.mem_of_getElem? (i := 37) rfl)) (gm_0 _ (List.mem_of_getElem? (i := 8) rfl)) ml_wsRX12_prove) (gdV (by decide +kernel) gdwsRX12_prove)
set_option maxRecDepth 100000 in
theorem gl_C_need : GoodIn lw_tbl (wsV RL 153 RX11 yX11_need wsU_need) := goodIn_sub (mV (gm_40 _ (List.mem_of_getElem? (i := 34) rfl)) (gm_40 _ (List.mem_of_getElem? (i := 35) rfl)) (gm_40 _ (List.mem_of_getElem? (i := 36) rfl)) (gm_0 _ (List.mem_of_getElem? (i := 3) rfl)) ml_wsU_need) (gdV (by decide +kernel) gdwsU_need)
set_option maxRecDepth 100000 in
theorem gl_R_need : GoodIn lw_tbl (wsV RL 156 RX12 yX12_need wsRX12_need) := goodIn_sub (mV (gm_41 _ (List.mem_of_getElem? (i := 2) rfl)) (gm_41 _ (List.mem_of_getElem? (i := 3) rfl)) (gm_41 _ (List.mem_of_getElem? (i := 4) rfl)) (gm_0 _ (List.mem_of_getElem? (i := 8) rfl)) ml_wsRX12_need) (gdV (by decide +kernel) gdwsRX12_need)
set_option maxRecDepth 100000 in
theorem gl_H_multiplier : GoodIn lw_tbl (va_wsS RL 157 yL_multiplier wsH_multiplier) := goodIn_sub (mS (gm_41 _ (List.mem_of_getElem? (i := 5) rfl)) (gm_41 _ (List.mem_of_getElem? (i := 6) rfl)) (show Cond.initialized "OptimaWorksLaw" ∈ lw_tbl from (gm_1 _ (List.mem_of_getElem? (i := 8) rfl))) ml_wsH_multiplier) (gdA (by decide +kernel) gdwsH_multiplier)
set_option maxRecDepth 100000 in
theorem gl_R_multiplier : GoodIn lw_tbl (wsV RL 159 RX12 yX12_multiplier wsRX12_multiplier) := goodIn_sub (mV (gm_41 _ (List.mem_of_getElem? (i := 16) rfl)) (gm_41 _ (List.mem_of_getElem? (i := 17) rfl)) (gm_41 _ (List.mem_of_getElem? (i := 18) rfl)) (gm_0 _ (List.mem_of_getElem? (i := 8) rfl)) ml_wsRX12_multiplier) (gdV (by decide +kernel) gdwsRX12_multiplier)
set_option maxRecDepth 100000 in
theorem gl_C_letter : GoodIn lw_tbl (wsV RL 160 RX11 yX11_letter wsU_letter) := goodIn_sub (mV (gm_41 _ (List.mem_of_getElem? (i := 19) rfl)) (gm_41 _ (List.mem_of_getElem? (i := 20) rfl)) (gm_41 _ (List.mem_of_getElem? (i := 21) rfl)) (gm_0 _ (List.mem_of_getElem? (i := 3) rfl)) ml_wsU_letter) (gdV (by decide +kernel) gdwsU_letter)
set_option maxRecDepth 100000 in
theorem gl_R_letter : GoodIn lw_tbl (wsV RL 163 RX12 yX12_letter wsRX12_letter) := goodIn_sub (mV (gm_41 _ (List.mem_of_getElem? (i := 22) rfl)) (gm_41 _ (List.mem_of_getElem? (i := 23) rfl)) (gm_41 _ (List.mem_of_getElem? (i := 24) rfl)) (gm_0 _ (List.mem_of_getElem? (i := 8) rfl)) ml_wsRX12_letter) (gdV (by decide +kernel) gdwsRX12_letter)
set_option maxRecDepth 100000 in
theorem gl_C_about : GoodIn lw_tbl (wsV RL 164 RX11 yX11_about wsU_about) := goodIn_sub (mV (gm_41 _ (List.mem_of_getElem? (i := 25) rfl)) (gm_41 _ (List.mem_of_getElem? (i := 26) rfl)) (gm_41 _ (List.mem_of_getElem? (i := 27) rfl)) (gm_0 _ (List.mem_of_getElem? (i := 3) rfl)) ml_wsU_about) (gdV (by decide +kernel) gdwsU_about)
set_option maxRecDepth 100000 in
theorem gl_R_about : GoodIn lw_tbl (wsV RL 167 RX12 yX12_about wsRX12_about) := goodIn_sub (mV (gm_41 _ (List.mem_of_getElem? (i := 29) rfl)) (gm_41 _ (List.mem_of_getElem? (i := 30) rfl)) (gm_41 _ (List.mem_of_getElem? (i := 31) rfl)) (gm_0 _ (List.mem_of_getElem? (i := 8) rfl)) ml_wsRX12_about) (gdV (by decide +kernel) gdwsRX12_about)
set_option maxRecDepth 100000 in
theorem gl_H_holder : GoodIn lw_tbl (va_wsS RL 168 yL_holder wsH_holder) := goodIn_sub (mS (gm_41 _ (List.mem_of_getElem? (i := 32) rfl)) (gm_41 _ (List.mem_of_getElem? (i := 33) rfl)) (show Cond.initialized "OptimaWorksLaw" ∈ lw_tbl from (gm_1 _ (List.mem_of_getElem? (i := 8) rfl))) ml_wsH_holder) (gdA (by decide +kernel) gdwsH_holder)
set_option maxRecDepth 100000 in
theorem gl_R_holder : GoodIn lw_tbl (wsV RL 170 RX12 yX12_holder wsRX12_holder) := goodIn_sub (mV (gm_42 _ (List.mem_of_getElem? (i := 31) rfl)) (gm_42 _ (List.mem_of_getElem? (i := 32) rfl)) (gm_42 _ (List.mem_of_getElem? (i := 33) rfl)) (gm_0 _ (List.mem_of_getElem? (i := 8) rfl)) ml_wsRX12_holder) (gdV (by decide +kernel) gdwsRX12_holder)
set_option maxRecDepth 100000 in
theorem gl_H_rule : GoodIn lw_tbl (va_wsS RL 171 yL_rule wsH_rule) := goodIn_sub (mS (gm_42 _ (List.mem_of_getElem? (i := 38) rfl)) (gm_42 _ (List.mem_of_getElem? (i := 39) rfl)) (show Cond.initialized "OptimaWorksLaw" ∈ lw_tbl from (gm_1 _ (List.mem_of_getElem? (i := 8) rfl))) ml_wsH_rule) (gdA (by decide +kernel) gdwsH_rule)
set_option maxRecDepth 100000 in
theorem gl_R_rule : GoodIn lw_tbl (wsV RL 174 RX12 yX12_rule wsRX12_rule) := goodIn_sub (mV (gm_43 _ (List.mem_of_getElem? (i := 24) rfl)) (gm_43 _ (List.mem_of_getElem? (i := 25) rfl)) (gm_43 _ (List.mem_of_getElem? (i := 26) rfl)) (gm_0 _ (List.mem_of_getElem? (i := 8) rfl)) ml_wsRX12_rule) (gdV (by decide +kernel) gdwsRX12_rule)
set_option maxRecDepth 100000 in
theorem gl_C_pair : GoodIn lw_tbl (wsV RL 175 RX11 yX11_pair wsU_pair) := goodIn_sub (mV (gm_44 _ (List.mem_of_getElem? (i := 3) rfl)) (gm_44 _ (List.mem_of_getElem? (i := 4) rfl)) (gm_44 _ (List.mem_of_getElem? (i := 5) rfl)) (gm_0 _ (List.mem_of_getElem? (i := 3) rfl)) ml_wsU_pair) (gdV (by decide +kernel) gdwsU_pair)
set_option maxRecDepth 100000 in
theorem gl_R_pair : GoodIn lw_tbl (wsV RL 179 RX12 yX12_pair wsRX12_pair) := goodIn_sub (mV (gm_44 _ (List.mem_of_getElem? (i := 7) rfl)) (gm_44 _ (List.mem_of_getElem? (i := 8) rfl)) (gm_44 _ (List.mem_of_getElem? (i := 9) rfl)) (gm_0 _ (List.mem_of_getElem? (i := 8) rfl)) ml_wsRX12_pair) (gdV (by decide +kernel) gdwsRX12_pair)
set_option maxRecDepth 100000 in
theorem gl_C_left : GoodIn lw_tbl (wsV RL 180 RX11 yX11_left wsU_left) := goodIn_sub (mV (gm_44 _ (List.mem_of_getElem? (i := 11) rfl)) (gm_44 _ (List.mem_of_getElem? (i := 12) rfl)) (gm_44 _ (List.mem_of_getElem? (i := 13) rfl)) (gm_0 _ (List.mem_of_getElem? (i := 3) rfl)) ml_wsU_left) (gdV (by decide +kernel) gdwsU_left)
set_option maxRecDepth 100000 in
theorem gl_R_left : GoodIn lw_tbl (wsV RL 183 RX12 yX12_left wsRX12_left) := goodIn_sub (mV (gm_45 _ (List.mem_of_getElem? (i := 27) rfl)) (gm_45 _ (List.mem_of_getElem? (i := 28) rfl)) (gm_45 _ (List.mem_of_getElem? (i := 29) rfl)) (gm_0 _ (List.mem_of_getElem? (i := 8) rfl)) ml_wsRX12_left) (gdV (by decide +kernel) gdwsRX12_left)
set_option maxRecDepth 100000 in
theorem gl_C_listing : GoodIn lw_tbl (wsV RL 184 RX11 yX11_listing wsU_listing) := goodIn_sub (mV (gm_46 _ (List.mem_of_getElem? (i := 32) rfl)) (gm_46 _ (List.mem_of_getElem? (i := 33) rfl)) (gm_46 _ (List.mem_of_getElem? (i := 34) rfl)) (gm_0 _ (List.mem_of_getElem? (i := 3) rfl)) ml_wsU_listing) (gdV (by decide +kernel) gdwsU_listing)
set_option maxRecDepth 100000 in
theorem gl_R_listing : GoodIn lw_tbl (wsV RL 187 RX12 yX12_listing wsRX12_listing) := goodIn_sub (mV (gm_47 _ (List.mem_of_getElem? (i := 20) rfl)) (gm_47 _ (List.mem_of_getElem? (i := 21) rfl)) (gm_47 _ (List.mem_of_getElem? (i := 22) rfl)) (gm_0 _ (List.mem_of_getElem? (i := 8) rfl)) ml_wsRX12_listing) (gdV (by decide +kernel) gdwsRX12_listing)
set_option maxRecDepth 100000 in
theorem gl_C_listed : GoodIn lw_tbl (wsV RL 188 RX11 yX11_listed wsU_listed) := goodIn_sub (mV (gm_47 _ (List.mem_of_getElem? (i := 37) rfl)) (gm_47 _ (List.mem_of_getElem? (i := 38) rfl)) (gm_47 _ (List.mem_of_getElem? (i := 39) rfl)) (gm_0 _ (List.mem_of_getElem? (i := 3) rfl)) ml_wsU_listed) (gdV (by decide +kernel) gdwsU_listed)
set_option maxRecDepth 100000 in
theorem gl_R_listed : GoodIn lw_tbl (wsV RL 191 RX12 yX12_listed wsRX12_listed) := goodIn_sub (mV (gm_48 _ (List.mem_of_getElem? (i := 5) rfl)) (gm_48 _ (List.mem_of_getElem? (i := 6) rfl)) (gm_48 _ (List.mem_of_getElem? (i := 7) rfl)) (gm_0 _ (List.mem_of_getElem? (i := 8) rfl)) ml_wsRX12_listed) (gdV (by decide +kernel) gdwsRX12_listed)
set_option maxRecDepth 100000 in
theorem gl_C_reason : GoodIn lw_tbl (wsV RL 192 RX11 yX11_reason wsU_reason) := goodIn_sub (mV (gm_48 _ (List.mem_of_getElem? (i := 9) rfl)) (gm_48 _ (List.mem_of_getElem? (i := 10) rfl)) (gm_48 _ (List.mem_of_getElem? (i := 11) rfl)) (gm_0 _ (List.mem_of_getElem? (i := 3) rfl)) ml_wsU_reason) (gdV (by decide +kernel) gdwsU_reason)
set_option maxRecDepth 100000 in
theorem gl_R_reason : GoodIn lw_tbl (wsV RL 195 RX12 yX12_reason wsRX12_reason) := goodIn_sub (mV (gm_48 _ (List.mem_of_getElem? (i := 16) rfl)) (gm_48 _ (List.mem_of_getElem? (i := 17) rfl)) (gm_48 _ (List.mem_of_getElem? (i := 18) rfl)) (gm_0 _ (List.mem_of_getElem? (i := 8) rfl)) ml_wsRX12_reason) (gdV (by decide +kernel) gdwsRX12_reason)
set_option maxRecDepth 100000 in
theorem gl_C_clear : GoodIn lw_tbl (wsV RL 196 RX11 yX11_clear wsU_clear) := goodIn_sub (mV (gm_48 _ (List.mem_of_getElem? (i := 19) rfl)) (gm_48 _ (List.mem_of_getElem? (i := 20) rfl)) (gm_48 _ (List.mem_of_getElem? (i := 21) rfl)) (gm_0 _ (List.mem_of_getElem? (i := 3) rfl)) ml_wsU_clear) (gdV (by decide +kernel) gdwsU_clear)
set_option maxRecDepth 100000 in
theorem gl_R_clear : GoodIn lw_tbl (wsV RL 199 RX12 yX12_clear wsRX12_clear) := goodIn_sub (mV (gm_48 _ (List.mem_of_getElem? (i := 25) rfl)) (gm_48 _ (List.mem_of_getElem? (i := 26) rfl)) (gm_48 _ (List.mem_of_getElem? (i := 27) rfl)) (gm_0 _ (List.mem_of_getElem? (i := 8) rfl)) ml_wsRX12_clear) (gdV (by decide +kernel) gdwsRX12_clear)
set_option maxRecDepth 100000 in
theorem gl_H_clause : GoodIn lw_tbl (va_wsS RL 200 yL_clause wsH_clause) := goodIn_sub (mS (gm_48 _ (List.mem_of_getElem? (i := 28) rfl)) (gm_48 _ (List.mem_of_getElem? (i := 29) rfl)) (show Cond.initialized "OptimaWorksLaw" ∈ lw_tbl from (gm_1 _ (List.mem_of_getElem? (i := 8) rfl))) ml_wsH_clause) (gdA (by decide +kernel) gdwsH_clause)
set_option maxRecDepth 100000 in
theorem gl_R_clause : GoodIn lw_tbl (wsV RL 202 RX12 yX12_clause wsRX12_clause) := goodIn_sub (mV (gm_49 _ (List.mem_of_getElem? (i := 16) rfl)) (gm_49 _ (List.mem_of_getElem? (i := 17) rfl)) (gm_49 _ (List.mem_of_getElem? (i := 18) rfl)) (gm_0 _ (List.mem_of_getElem? (i := 8) rfl)) ml_wsRX12_clause) (gdV (by decide +kernel) gdwsRX12_clause)
set_option maxRecDepth 100000 in
theorem gl_C_unsay : GoodIn lw_tbl (wsV RL 203 RX11 yX11_unsay wsU_unsay) := goodIn_sub (mV (gm_49 _ (List.mem_of_getElem? (i := 23) rfl)) (gm_49 _ (List.mem_of_getElem? (i := 24) rfl)) (gm_49 _ (List.mem_of_getElem? (i := 25) rfl)) (gm_0 _ (List.mem_of_getElem? (i := 3) rfl)) ml_wsU_unsay) (gdV (by decide +kernel) gdwsU_unsay)
set_option maxRecDepth 100000 in
theorem gl_R_unsay : GoodIn lw_tbl (wsV RL 207 RX12 yX12_unsay wsRX12_unsay) := goodIn_sub (mV (gm_49 _ (List.mem_of_getElem? (i := 29) rfl)) (gm_49 _ (List.mem_of_getElem? (i := 30) rfl)) (gm_49 _ (List.mem_of_getElem? (i := 31) rfl)) (gm_0 _ (List.mem_of_getElem? (i := 8) rfl)) ml_wsRX12_unsay) (gdV (by decide +kernel) gdwsRX12_unsay)
set_option maxRecDepth 100000 in
theorem gl_C_truth : GoodIn lw_tbl (wsV RL 208 RX11 yX11_truth wsU_truth) := goodIn_sub (mV (gm_49 _ (List.mem_of_getElem? (i := 32) rfl)) (gm_49 _ (List.mem_of_getElem? (i := 33) rfl)) (gm_49 _ (List.mem_of_getElem? (i := 34) rfl)) (gm_0 _ (List.mem_of_getElem? (i := 3) rfl)) ml_wsU_truth) (gdV (by decide +kernel) gdwsU_truth)
set_option maxRecDepth 100000 in
theorem gl_R_truth : GoodIn lw_tbl (wsV RL 211 RX12 yX12_truth wsRX12_truth) := goodIn_sub (mV (gm_50 _ (List.mem_of_getElem? (i := 7) rfl)) (gm_50 _ (List.mem_of_getElem? (i := 8) rfl)) (gm_50 _ (List.mem_of_getElem? (i := 9) rfl)) (gm_0 _ (List.mem_of_getElem? (i := 8) rfl)) ml_wsRX12_truth) (gdV (by decide +kernel) gdwsRX12_truth)
set_option maxRecDepth 100000 in
theorem gl_H_arc : GoodIn lw_tbl (va_wsS RL 212 yL_arc wsH_arc) := goodIn_sub (mS (gm_50 _ (List.mem_of_getElem? (i := 22) rfl)) (gm_50 _ (List.mem_of_getElem? (i := 23) rfl)) (show Cond.initialized "OptimaWorksLaw" ∈ lw_tbl from (gm_1 _ (List.mem_of_getElem? (i := 8) rfl))) ml_wsH_arc) (gdA (by decide +kernel) gdwsH_arc)
set_option maxRecDepth 100000 in
theorem gl_R_arc : GoodIn lw_tbl (wsV RL 214 RX12 yX12_arc wsRX12_arc) := goodIn_sub (mV (gm_51 _ (List.mem_of_getElem? (i := 15) rfl)) (gm_51 _ (List.mem_of_getElem? (i := 16) rfl)) (gm_51 _ (List.mem_of_getElem? (i := 17) rfl)) (gm_0 _ (List.mem_of_getElem? (i := 8) rfl)) ml_wsRX12_arc) (gdV (by decide +kernel) gdwsRX12_arc)
set_option maxRecDepth 100000 in
theorem gl_C_unarc : GoodIn lw_tbl (wsV RL 215 RX11 yX11_unarc wsU_unarc) := goodIn_sub (mV (gm_51 _ (List.mem_of_getElem? (i := 25) rfl)) (gm_51 _ (List.mem_of_getElem? (i := 26) rfl)) (gm_51 _ (List.mem_of_getElem? (i := 27) rfl)) (gm_0 _ (List.mem_of_getElem? (i := 3) rfl)) ml_wsU_unarc) (gdV (by decide +kernel) gdwsU_unarc)
set_option maxRecDepth 100000 in
theorem gl_R_unarc : GoodIn lw_tbl (wsV RL 218 RX12 yX12_unarc wsRX12_unarc) := goodIn_sub (mV (gm_51 _ (List.mem_of_getElem? (i := 31) rfl)) (gm_51 _ (List.mem_of_getElem? (i := 32) rfl)) (gm_51 _ (List.mem_of_getElem? (i := 33) rfl)) (gm_0 _ (List.mem_of_getElem? (i := 8) rfl)) ml_wsRX12_unarc) (gdV (by decide +kernel) gdwsRX12_unarc)
set_option maxRecDepth 100000 in
theorem gl_H_greatest : GoodIn lw_tbl (va_wsS RL 219 yL_greatest wsH_greatest) := goodIn_sub (mS (gm_51 _ (List.mem_of_getElem? (i := 34) rfl)) (gm_51 _ (List.mem_of_getElem? (i := 35) rfl)) (show Cond.initialized "OptimaWorksLaw" ∈ lw_tbl from (gm_1 _ (List.mem_of_getElem? (i := 8) rfl))) ml_wsH_greatest) (gdA (by decide +kernel) gdwsH_greatest)
set_option maxRecDepth 100000 in
theorem gl_R_greatest : GoodIn lw_tbl (wsV RL 221 RX12 yX12_greatest wsRX12_greatest) := goodIn_sub (mV (gm_52 _ (List.mem_of_getElem? (i := 12) rfl)) (gm_52 _ (List.mem_of_getElem? (i := 13) rfl)) (gm_52 _ (List.mem_of_getElem? (i := 14) rfl)) (gm_0 _ (List.mem_of_getElem? (i := 8) rfl)) ml_wsRX12_greatest) (gdV (by decide +kernel) gdwsRX12_greatest)
set_option maxRecDepth 100000 in
theorem gl_H_cut : GoodIn lw_tbl (va_wsS RL 222 yL_cut wsH_cut) := goodIn_sub (mS (gm_52 _ (List.mem_of_getElem? (i := 32) rfl)) (gm_52 _ (List.mem_of_getElem? (i := 33) rfl)) (show Cond.initialized "OptimaWorksLaw" ∈ lw_tbl from (gm_1 _ (List.mem_of_getElem? (i := 8) rfl))) ml_wsH_cut) (gdA (by decide +kernel) gdwsH_cut)
set_option maxRecDepth 100000 in
theorem gl_R_cut : GoodIn lw_tbl (wsV RL 224 RX12 yX12_cut wsRX12_cut) := goodIn_sub (mV (gm_52 _ (List.mem_of_getElem? (i := 38) rfl)) (gm_52 _ (List.mem_of_getElem? (i := 39) rfl)) (gm_53 _ (List.mem_of_getElem? (i := 0) rfl)) (gm_0 _ (List.mem_of_getElem? (i := 8) rfl)) ml_wsRX12_cut) (gdV (by decide +kernel) gdwsRX12_cut)
set_option maxRecDepth 100000 in
theorem gl_H_cheapest : GoodIn lw_tbl (va_wsS RL 225 yL_cheapest wsH_cheapest) := goodIn_sub (mS (gm_53 _ (List.mem_of_getElem? (i := 1) rfl)) (gm_53 _ (List.mem_of_getElem? (i := 2) rfl)) (show Cond.initialized "OptimaWorksLaw" ∈ lw_tbl from (gm_1 _ (List.mem_of_getElem? (i := 8) rfl))) ml_wsH_cheapest) (gdA (by decide +kernel) gdwsH_cheapest)
set_option maxRecDepth 100000 in
theorem gl_R_cheapest : GoodIn lw_tbl (wsV RL 227 RX12 yX12_cheapest wsRX12_cheapest) := goodIn_sub (mV (gm_53 _ (List.mem_of_getElem? (i := 15) rfl)) (gm_53 _ (List.mem_of_getElem? (i := 16) rfl)) (gm_53 _ (List.mem_of_getElem? (i := 17) rfl)) (gm_0 _ (List.mem_of_getElem? (i := 8) rfl)) ml_wsRX12_cheapest) (gdV (by decide +kernel) gdwsRX12_cheapest)
set_option maxRecDepth 100000 in
theorem gl_H_path : GoodIn lw_tbl (va_wsS RL 228 yL_path wsH_path) := goodIn_sub (mS (gm_53 _ (List.mem_of_getElem? (i := 18) rfl)) (gm_53 _ (List.mem_of_getElem? (i := 19) rfl)) (show Cond.initialized "OptimaWorksLaw" ∈ lw_tbl from (gm_1 _ (List.mem_of_getElem? (i := 8) rfl))) ml_wsH_path) (gdA (by decide +kernel) gdwsH_path)
set_option maxRecDepth 100000 in
theorem gl_R_path : GoodIn lw_tbl (wsV RL 230 RX12 yX12_path wsRX12_path) := goodIn_sub (mV (gm_53 _ (List.mem_of_getElem? (i := 32) rfl)) (gm_53 _ (List.mem_of_getElem? (i := 33) rfl)) (gm_53 _ (List.mem_of_getElem? (i := 34) rfl)) (gm_0 _ (List.mem_of_getElem? (i := 8) rfl)) ml_wsRX12_path) (gdV (by decide +kernel) gdwsRX12_path)
set_option maxRecDepth 100000 in
theorem gl_C_tree : GoodIn lw_tbl (wsV RL 231 RX11 yX11_tree wsU_tree) := goodIn_sub (mV (gm_53 _ (List.mem_of_getElem? (i := 39) rfl)) (gm_54 _ (List.mem_of_getElem? (i := 0) rfl)) (gm_54 _ (List.mem_of_getElem? (i := 1) rfl)) (gm_0 _ (List.mem_of_getElem? (i := 3) rfl)) ml_wsU_tree) (gdV (by decide +kernel) gdwsU_tree)
set_option maxRecDepth 100000 in
theorem gl_R_tree : GoodIn lw_tbl (wsV RL 235 RX12 yX12_tree wsRX12_tree) := goodIn_sub (mV (gm_54 _ (List.mem_of_getElem? (i := 9) rfl)) (gm_54 _ (List.mem_of_getElem? (i := 10) rfl)) (gm_54 _ (List.mem_of_getElem? (i := 11) rfl)) (gm_0 _ (List.mem_of_getElem? (i := 8) rfl)) ml_wsRX12_tree) (gdV (by decide +kernel) gdwsRX12_tree)
set_option maxRecDepth 100000 in
theorem gl_H_tour : GoodIn lw_tbl (va_wsS RL 236 yL_tour wsH_tour) := goodIn_sub (mS (gm_54 _ (List.mem_of_getElem? (i := 13) rfl)) (gm_54 _ (List.mem_of_getElem? (i := 14) rfl)) (show Cond.initialized "OptimaWorksLaw" ∈ lw_tbl from (gm_1 _ (List.mem_of_getElem? (i := 8) rfl))) ml_wsH_tour) (gdA (by decide +kernel) gdwsH_tour)
set_option maxRecDepth 100000 in
theorem gl_R_tour : GoodIn lw_tbl (wsV RL 238 RX12 yX12_tour wsRX12_tour) := goodIn_sub (mV (gm_54 _ (List.mem_of_getElem? (i := 38) rfl)) (gm_54 _ (List.mem_of_getElem? (i := 39) rfl)) (gm_55 _ (List.mem_of_getElem? (i := 0) rfl)) (gm_0 _ (List.mem_of_getElem? (i := 8) rfl)) ml_wsRX12_tour) (gdV (by decide +kernel) gdwsRX12_tour)
end
section
set_option maxHeartbeats 4000000 in
set_option maxRecDepth 100000 in
/-- the law's case 0: feed -/
theorem lc_0 {p : Program} {e : Env} {s : State} {m : MethodId} {below : List Frame} {meth : Method} {c : Code} (l : Launch) (hst : l.stackTraces = false) {b Ls : Nat} {xs : Nat → Int32} (hLs : Ls ≤ 384) (C0 : lw_At p s m meth c b Ls xs) {A : Nat → Prop} (dC : Nat → ClassId) (dI : Nat → Nat → Nat) (kX : Nat → ClassId) (kT : Nat → ClassId) (kM : Nat → ClassId) (kV : Nat → ClassId) (kC : Nat → ClassId) (kN : Nat → ClassId) (kJ : Nat → ClassId) (kL : Nat → ClassId) (kF : Nat → ClassId) (kO : Nat → ClassId) (kQ : Nat → ClassId) (kG : Nat → ClassId) (kw : ClassId) (kv : Nat → ClassId) (kR : ClassId) (E0 : LwC dC dI kX kT kM kV kC kN kJ kL kF kO kQ kG kw kv kR A s) {h1 h2 o j : Nat} (hj : 6 * j + 6 ≤ Ls) {H : Heap} {locs : List Loc} {ls : Array Slot} {cells slots : Nat} (hI : LwI dC dI kX kT kM kV kC kN kJ kL kF kO kQ kG kw kv kR A s h1 h2 o j H locs) (hl : lv_has ls 7 [(4, .int (nI (6 * j))), (3, .ref o), (2, .ref h2), (1, .ref h1), (0, .ref b)])
    (hgo : ∀ (H : Heap) (locs : List Loc) (ls : Array Slot) (cells slots : Nat), LwI dC dI kX kT kM kV kC kN kJ kL kF kO kQ kG kw kv kR A s h1 h2 o (j + 1) H locs → lv_has ls 7 [(4, .int (nI (6 * j))), (3, .ref o), (2, .ref h2), (1, .ref h1), (0, .ref b)] → W p l e room_1 s m #[Value.ref b] below meth c H locs cells slots (lw_Z below #[Value.ref b] s) (F0 m 1507 ls [])) : W p l e room_1 s m #[Value.ref b] below meth c H locs cells slots (lw_Z below #[Value.ref b] s) (F0 m 212 ls []) := by
  obtain ⟨hx, hb, hr, hml, hown, hts, hX, hbl, hlocks, hgv⟩ := id C0
  have hb : c.code = cL_law := hb
  have hown : s.vm.findClass RL = some m.cls := hown
  obtain ⟨hA, hA2, hE, hT9, hNc, hKC, hKV, hKR⟩ := E0
  have hbA : ¬ A b := fun h => absurd (hA2 b h) (Nat.not_le.mpr hbl)
  obtain ⟨T, th, Fc, Fs, w, v, g, hC, hR, hT, hP, hD, hS, hz, hn⟩ := hI
  have hbd := hC.bd
  refine W.tight (cells2 := Fc + 1000 * j + 125) (slots2 := Fs + 9000 * j + 181434) hz hn ?_
  refine lv_aload_n hx hb dL_law_212 rfl (lv_at hl 3 rfl) ?_
  refine lw_arg hx hb hX hbl hbA hS (lv_at hl 4 rfl) (lv_at hl 0 rfl) 1 (by omega) hLs (by decide) dL_law_213 dL_law_214 dL_law_216 dL_law_217 dL_law_218 ?_
  refine lw_arg hx hb hX hbl hbA hS (lv_at hl 4 rfl) (lv_at hl 0 rfl) 2 (by omega) hLs (by decide) dL_law_219 dL_law_220 dL_law_222 dL_law_223 dL_law_224 ?_
  refine lw_arg hx hb hX hbl hbA hS (lv_at hl 4 rfl) (lv_at hl 0 rfl) 3 (by omega) hLs (by decide) dL_law_225 dL_law_226 dL_law_228 dL_law_229 dL_law_230 ?_
  refine lw_arg hx hb hX hbl hbA hS (lv_at hl 4 rfl) (lv_at hl 0 rfl) 4 (by omega) hLs (by decide) dL_law_231 dL_law_232 dL_law_234 dL_law_235 dL_law_236 ?_
  refine lw_arg hx hb hX hbl hbA hS (lv_at hl 4 rfl) (lv_at hl 0 rfl) 5 (by omega) hLs (by decide) dL_law_237 dL_law_238 dL_law_240 dL_law_241 dL_law_242 ?_
  refine lawC_v (y := yX11_feed) (ws := wsU_feed) (mc := 0) (ms := 0) (As := [.int (xs (6 * j + 1)), .int (xs (6 * j + 2)), .int (xs (6 * j + 3)), .int (xs (6 * j + 4)), .int (xs (6 * j + 5))]) (rest := []) ⟨hx, hb, hml, hown, hts⟩ (U_feed l hst dC dI kX kT kM kV kC kN kJ kL kF kO kQ kG kw h1 (((T.1 : Nat) : Int), T.2) Fc Fs w (xs (6 * j + 1)) (xs (6 * j + 2)) (xs (6 * j + 3)) (xs (6 * j + 4)) (xs (6 * j + 5)) hC H.size) (cwV 5 hts gl_C_feed rfl rfl rfl (by decide +kernel) ⟨Nat.le_of_ble_eq_true rfl, Nat.le_of_ble_eq_true rfl⟩) hC.recv hKC hE hA hP hD hS rfl hl.1 (lv_room (Nat.le_of_ble_eq_true rfl)) dL_law_243 ⟨show Fc + 1000 * j + 125 + 0 ≤ 327717 by omega, show Fs + 9000 * j + 181434 + 0 ≤ 8118330 by omega⟩ (fun u H1 locs1 hp hP hD hS hz1 hs1 => ?_)
  obtain ⟨hC1, hL1⟩ := hp
  refine W.tight (cells2 := u.2.1 + 1000 * (j + 1) + 125) (slots2 := u.2.2.1 + 9000 * (j + 1) + 181434) (by omega) (by omega) ?_
  have hbd1 := hC1.bd
  refine lv_aload_n hx hb dL_law_246 rfl (lv_at hl 2 rfl) ?_
  refine lw_arg hx hb hX hbl hbA hS (lv_at hl 4 rfl) (lv_at hl 0 rfl) 1 (by omega) hLs (by decide) dL_law_247 dL_law_248 dL_law_250 dL_law_251 dL_law_252 ?_
  refine lw_arg hx hb hX hbl hbA hS (lv_at hl 4 rfl) (lv_at hl 0 rfl) 2 (by omega) hLs (by decide) dL_law_253 dL_law_254 dL_law_256 dL_law_257 dL_law_258 ?_
  refine lw_arg hx hb hX hbl hbA hS (lv_at hl 4 rfl) (lv_at hl 0 rfl) 3 (by omega) hLs (by decide) dL_law_259 dL_law_260 dL_law_262 dL_law_263 dL_law_264 ?_
  refine lw_arg hx hb hX hbl hbA hS (lv_at hl 4 rfl) (lv_at hl 0 rfl) 4 (by omega) hLs (by decide) dL_law_265 dL_law_266 dL_law_268 dL_law_269 dL_law_270 ?_
  refine lw_arg hx hb hX hbl hbA hS (lv_at hl 4 rfl) (lv_at hl 0 rfl) 5 (by omega) hLs (by decide) dL_law_271 dL_law_272 dL_law_274 dL_law_275 dL_law_276 ?_
  refine lawR_v (y := yX12_feed) (ws := wsRX12_feed) (mc := 0) (ms := 0) (As := [.int (xs (6 * j + 1)), .int (xs (6 * j + 2)), .int (xs (6 * j + 3)), .int (xs (6 * j + 4)), .int (xs (6 * j + 5))]) (rest := []) ⟨hx, hb, hml, hown, hts⟩ (R_feed l dC dI kv h2 T th v (xs (6 * j + 1)) (xs (6 * j + 2)) (xs (6 * j + 3)) (xs (6 * j + 4)) (xs (6 * j + 5)) hR H1.size) (cwV 5 hts gl_R_feed rfl rfl rfl (by decide +kernel) ⟨Nat.le_of_ble_eq_true rfl, Nat.le_of_ble_eq_true rfl⟩) hR.recv hKV hT9 hA hP hD hS rfl hl.1 (lv_room (Nat.le_of_ble_eq_true rfl)) dL_law_277 ⟨show u.2.1 + 1000 * (j + 1) + 125 + 0 ≤ 327717 by omega, show u.2.2.1 + 9000 * (j + 1) + 181434 + 0 ≤ 8118330 by omega⟩ (fun u2 H2 locs2 hp2 hP hD hS => ?_)
  obtain ⟨hR2, hT2⟩ := hp2
  refine lv_goto (tgt := 1507) hx hb dL_law_280 (by decide) ?_
  refine W.known (fun z1 z2 => ?_)
  have hTT : (((((u2.1.1 : Nat) : Int), u2.1.2) : LT) = u.1 ∧ u2.1.1 ≤ 20 * (j + 1)) := ⟨by rw [hL1, hT2] <;> rfl, by rw [hT2]; first | omega | (dsimp only; omega)⟩
  exact hgo H2 locs2 ls _ _ ⟨u2.1, u2.2.1, u.2.1, u.2.2.1, u.2.2.2, u2.2.2, g, by rw [hTT.1]; exact hC1, hR2, hTT.2, hP, hD, hS, by omega, by omega⟩ (lv_sub hl [0, 1, 2, 3, 4] rfl)
set_option maxHeartbeats 4000000 in
set_option maxRecDepth 100000 in
/-- the law's case 1: end -/
theorem lc_1 {p : Program} {e : Env} {s : State} {m : MethodId} {below : List Frame} {meth : Method} {c : Code} (l : Launch) (hst : l.stackTraces = false) {b Ls : Nat} {xs : Nat → Int32} (hLs : Ls ≤ 384) (C0 : lw_At p s m meth c b Ls xs) {A : Nat → Prop} (dC : Nat → ClassId) (dI : Nat → Nat → Nat) (kX : Nat → ClassId) (kT : Nat → ClassId) (kM : Nat → ClassId) (kV : Nat → ClassId) (kC : Nat → ClassId) (kN : Nat → ClassId) (kJ : Nat → ClassId) (kL : Nat → ClassId) (kF : Nat → ClassId) (kO : Nat → ClassId) (kQ : Nat → ClassId) (kG : Nat → ClassId) (kw : ClassId) (kv : Nat → ClassId) (kR : ClassId) (E0 : LwC dC dI kX kT kM kV kC kN kJ kL kF kO kQ kG kw kv kR A s) {h1 h2 o j : Nat} (hj : 6 * j + 6 ≤ Ls) {H : Heap} {locs : List Loc} {ls : Array Slot} {cells slots : Nat} (hI : LwI dC dI kX kT kM kV kC kN kJ kL kF kO kQ kG kw kv kR A s h1 h2 o j H locs) (hl : lv_has ls 7 [(4, .int (nI (6 * j))), (3, .ref o), (2, .ref h2), (1, .ref h1), (0, .ref b)])
    (hgo : ∀ (H : Heap) (locs : List Loc) (ls : Array Slot) (cells slots : Nat), LwI dC dI kX kT kM kV kC kN kJ kL kF kO kQ kG kw kv kR A s h1 h2 o (j + 1) H locs → lv_has ls 7 [(4, .int (nI (6 * j))), (3, .ref o), (2, .ref h2), (1, .ref h1), (0, .ref b)] → W p l e room_1 s m #[Value.ref b] below meth c H locs cells slots (lw_Z below #[Value.ref b] s) (F0 m 1507 ls [])) : W p l e room_1 s m #[Value.ref b] below meth c H locs cells slots (lw_Z below #[Value.ref b] s) (F0 m 283 ls []) := by
  obtain ⟨hx, hb, hr, hml, hown, hts, hX, hbl, hlocks, hgv⟩ := id C0
  have hb : c.code = cL_law := hb
  have hown : s.vm.findClass RL = some m.cls := hown
  obtain ⟨hA, hA2, hE, hT9, hNc, hKC, hKV, hKR⟩ := E0
  have hbA : ¬ A b := fun h => absurd (hA2 b h) (Nat.not_le.mpr hbl)
  obtain ⟨T, th, Fc, Fs, w, v, g, hC, hR, hT, hP, hD, hS, hz, hn⟩ := hI
  have hbd := hC.bd
  refine W.tight (cells2 := Fc + 1000 * j + 125) (slots2 := Fs + 9000 * j + 181434) hz hn ?_
  refine lv_aload_n hx hb dL_law_283 rfl (lv_at hl 3 rfl) ?_
  refine lw_arg hx hb hX hbl hbA hS (lv_at hl 4 rfl) (lv_at hl 0 rfl) 1 (by omega) hLs (by decide) dL_law_284 dL_law_285 dL_law_287 dL_law_288 dL_law_289 ?_
  refine lawC_i (y := yX11_end) (ws := wsU_end) (mc := 161) (ms := 12800) (As := [.int (xs (6 * j + 1))]) (rest := []) ⟨hx, hb, hml, hown, hts⟩ (U_end l hst dC dI kX kT kM kV kC kN kJ kL kF kO kQ kG kw h1 (((T.1 : Nat) : Int), T.2) Fc Fs w (xs (6 * j + 1)) hC (show ((T.1 : Nat) : Int) ≤ 1260 by omega) H.size) (cwV 1 hts gl_C_end rfl rfl rfl (by decide +kernel) ⟨Nat.le_of_ble_eq_true rfl, Nat.le_of_ble_eq_true rfl⟩) hC.recv hKC hE hA hP hD hS rfl hl.1 (lv_room (Nat.le_of_ble_eq_true rfl)) dL_law_290 ⟨show Fc + 1000 * j + 125 + 161 ≤ 327717 by omega, show Fs + 9000 * j + 181434 + 12800 ≤ 8118330 by omega⟩ (fun r1 u H1 locs1 hp hP hD hS hz1 hs1 => ?_)
  obtain ⟨hC1, hL1⟩ := hp
  refine W.tight (cells2 := u.2.1 + 1000 * (j + 1) + 125) (slots2 := u.2.2.1 + 9000 * (j + 1) + 181434) (by omega) (by omega) ?_
  have hbd1 := hC1.bd
  refine lv_pop hx hb dL_law_293 rfl ?_
  refine lv_aload_n hx hb dL_law_294 rfl (lv_at hl 2 rfl) ?_
  refine lw_arg hx hb hX hbl hbA hS (lv_at hl 4 rfl) (lv_at hl 0 rfl) 1 (by omega) hLs (by decide) dL_law_295 dL_law_296 dL_law_298 dL_law_299 dL_law_300 ?_
  refine lawR_i (y := yX12_end) (ws := wsRX12_end) (mc := 0) (ms := 0) (As := [.int (xs (6 * j + 1))]) (rest := []) ⟨hx, hb, hml, hown, hts⟩ (R_end l dC dI kv h2 T th v (xs (6 * j + 1)) hR (by omega) H1.size) (cwV 1 hts gl_R_end rfl rfl rfl (by decide +kernel) ⟨Nat.le_of_ble_eq_true rfl, Nat.le_of_ble_eq_true rfl⟩) hR.recv hKV hT9 hA hP hD hS rfl hl.1 (lv_room (Nat.le_of_ble_eq_true rfl)) dL_law_301 ⟨show u.2.1 + 1000 * (j + 1) + 125 + 0 ≤ 327717 by omega, show u.2.2.1 + 9000 * (j + 1) + 181434 + 0 ≤ 8118330 by omega⟩ (fun r2 u2 H2 locs2 hp2 hP hD hS => ?_)
  obtain ⟨hR2, hT2⟩ := hp2
  refine lv_pop hx hb dL_law_304 rfl ?_
  refine lv_goto (tgt := 1507) hx hb dL_law_305 (by decide) ?_
  refine W.known (fun z1 z2 => ?_)
  have hTT : (((((u2.1.1 : Nat) : Int), u2.1.2) : LT) = u.1 ∧ u2.1.1 ≤ 20 * (j + 1)) := by
    by_cases h9 : 0 ≤ (xs (6 * j + 1)).toInt ∧ (xs (6 * j + 1)).toInt ≤ 20
    · have a1 := (hL1.1 h9).1
      have a2 := (hT2.1 h9).1
      exact ⟨by rw [a1, a2]; exact lt_t (by dsimp only; omega), by rw [a2]; dsimp only; omega⟩
    · have a1 := (hL1.2 h9).1
      have a2 := (hT2.2 h9).1
      exact ⟨by rw [a1, a2] <;> rfl, by rw [a2]; first | omega | (dsimp only; omega)⟩
  exact hgo H2 locs2 ls _ _ ⟨u2.1, u2.2.1, u.2.1, u.2.2.1, u.2.2.2, u2.2.2, g, by rw [hTT.1]; exact hC1, hR2, hTT.2, hP, hD, hS, by omega, by omega⟩ (lv_sub hl [0, 1, 2, 3, 4] rfl)
set_option maxHeartbeats 4000000 in
set_option maxRecDepth 100000 in
/-- the law's case 2: wipe -/
theorem lc_2 {p : Program} {e : Env} {s : State} {m : MethodId} {below : List Frame} {meth : Method} {c : Code} (l : Launch) (hst : l.stackTraces = false) {b Ls : Nat} {xs : Nat → Int32} (hLs : Ls ≤ 384) (C0 : lw_At p s m meth c b Ls xs) {A : Nat → Prop} (dC : Nat → ClassId) (dI : Nat → Nat → Nat) (kX : Nat → ClassId) (kT : Nat → ClassId) (kM : Nat → ClassId) (kV : Nat → ClassId) (kC : Nat → ClassId) (kN : Nat → ClassId) (kJ : Nat → ClassId) (kL : Nat → ClassId) (kF : Nat → ClassId) (kO : Nat → ClassId) (kQ : Nat → ClassId) (kG : Nat → ClassId) (kw : ClassId) (kv : Nat → ClassId) (kR : ClassId) (E0 : LwC dC dI kX kT kM kV kC kN kJ kL kF kO kQ kG kw kv kR A s) {h1 h2 o j : Nat} (hj : 6 * j + 6 ≤ Ls) {H : Heap} {locs : List Loc} {ls : Array Slot} {cells slots : Nat} (hI : LwI dC dI kX kT kM kV kC kN kJ kL kF kO kQ kG kw kv kR A s h1 h2 o j H locs) (hl : lv_has ls 7 [(4, .int (nI (6 * j))), (3, .ref o), (2, .ref h2), (1, .ref h1), (0, .ref b)])
    (hgo : ∀ (H : Heap) (locs : List Loc) (ls : Array Slot) (cells slots : Nat), LwI dC dI kX kT kM kV kC kN kJ kL kF kO kQ kG kw kv kR A s h1 h2 o (j + 1) H locs → lv_has ls 7 [(4, .int (nI (6 * j))), (3, .ref o), (2, .ref h2), (1, .ref h1), (0, .ref b)] → W p l e room_1 s m #[Value.ref b] below meth c H locs cells slots (lw_Z below #[Value.ref b] s) (F0 m 1507 ls [])) : W p l e room_1 s m #[Value.ref b] below meth c H locs cells slots (lw_Z below #[Value.ref b] s) (F0 m 308 ls []) := by
  obtain ⟨hx, hb, hr, hml, hown, hts, hX, hbl, hlocks, hgv⟩ := id C0
  have hb : c.code = cL_law := hb
  have hown : s.vm.findClass RL = some m.cls := hown
  obtain ⟨hA, hA2, hE, hT9, hNc, hKC, hKV, hKR⟩ := E0
  have hbA : ¬ A b := fun h => absurd (hA2 b h) (Nat.not_le.mpr hbl)
  obtain ⟨T, th, Fc, Fs, w, v, g, hC, hR, hT, hP, hD, hS, hz, hn⟩ := hI
  have hbd := hC.bd
  refine W.tight (cells2 := Fc + 1000 * j + 125) (slots2 := Fs + 9000 * j + 181434) hz hn ?_
  refine lv_aload_n hx hb dL_law_308 rfl (lv_at hl 3 rfl) ?_
  refine lawC_v (y := yX11_wipe) (ws := wsU_wipe) (mc := 0) (ms := 0) (As := []) (rest := []) ⟨hx, hb, hml, hown, hts⟩ (U_wipe l hst dC dI kX kT kM kV kC kN kJ kL kF kO kQ kG kw h1 (((T.1 : Nat) : Int), T.2) Fc Fs w hC H.size) (cwV 0 hts gl_C_wipe rfl rfl rfl (by decide +kernel) ⟨Nat.le_of_ble_eq_true rfl, Nat.le_of_ble_eq_true rfl⟩) hC.recv hKC hE hA hP hD hS rfl hl.1 (lv_room (Nat.le_of_ble_eq_true rfl)) dL_law_309 ⟨show Fc + 1000 * j + 125 + 0 ≤ 327717 by omega, show Fs + 9000 * j + 181434 + 0 ≤ 8118330 by omega⟩ (fun u H1 locs1 hp hP hD hS hz1 hs1 => ?_)
  obtain ⟨hC1, hL1⟩ := hp
  refine W.tight (cells2 := u.2.1 + 1000 * (j + 1) + 125) (slots2 := u.2.2.1 + 9000 * (j + 1) + 181434) (by omega) (by omega) ?_
  have hbd1 := hC1.bd
  refine lv_aload_n hx hb dL_law_312 rfl (lv_at hl 2 rfl) ?_
  refine lawR_v (y := yX12_wipe) (ws := wsRX12_wipe) (mc := 0) (ms := 0) (As := []) (rest := []) ⟨hx, hb, hml, hown, hts⟩ (R_wipe l dC dI kv h2 T th v hR H1.size) (cwV 0 hts gl_R_wipe rfl rfl rfl (by decide +kernel) ⟨Nat.le_of_ble_eq_true rfl, Nat.le_of_ble_eq_true rfl⟩) hR.recv hKV hT9 hA hP hD hS rfl hl.1 (lv_room (Nat.le_of_ble_eq_true rfl)) dL_law_313 ⟨show u.2.1 + 1000 * (j + 1) + 125 + 0 ≤ 327717 by omega, show u.2.2.1 + 9000 * (j + 1) + 181434 + 0 ≤ 8118330 by omega⟩ (fun u2 H2 locs2 hp2 hP hD hS => ?_)
  obtain ⟨hR2, hT2⟩ := hp2
  refine lv_goto (tgt := 1507) hx hb dL_law_316 (by decide) ?_
  refine W.known (fun z1 z2 => ?_)
  have hTT : (((((u2.1.1 : Nat) : Int), u2.1.2) : LT) = u.1 ∧ u2.1.1 ≤ 20 * (j + 1)) := ⟨by rw [hL1, hT2] <;> rfl, by rw [hT2]; first | omega | (dsimp only; omega)⟩
  exact hgo H2 locs2 ls _ _ ⟨u2.1, u2.2.1, u.2.1, u.2.2.1, u.2.2.2, u2.2.2, g, by rw [hTT.1]; exact hC1, hR2, hTT.2, hP, hD, hS, by omega, by omega⟩ (lv_sub hl [0, 1, 2, 3, 4] rfl)
set_option maxHeartbeats 4000000 in
set_option maxRecDepth 100000 in
/-- the law's case 3: read -/
theorem lc_3 {p : Program} {e : Env} {s : State} {m : MethodId} {below : List Frame} {meth : Method} {c : Code} (l : Launch) (hst : l.stackTraces = false) {b Ls : Nat} {xs : Nat → Int32} (hLs : Ls ≤ 384) (C0 : lw_At p s m meth c b Ls xs) {A : Nat → Prop} (dC : Nat → ClassId) (dI : Nat → Nat → Nat) (kX : Nat → ClassId) (kT : Nat → ClassId) (kM : Nat → ClassId) (kV : Nat → ClassId) (kC : Nat → ClassId) (kN : Nat → ClassId) (kJ : Nat → ClassId) (kL : Nat → ClassId) (kF : Nat → ClassId) (kO : Nat → ClassId) (kQ : Nat → ClassId) (kG : Nat → ClassId) (kw : ClassId) (kv : Nat → ClassId) (kR : ClassId) (E0 : LwC dC dI kX kT kM kV kC kN kJ kL kF kO kQ kG kw kv kR A s) {h1 h2 o j : Nat} (hj : 6 * j + 6 ≤ Ls) {H : Heap} {locs : List Loc} {ls : Array Slot} {cells slots : Nat} (hI : LwI dC dI kX kT kM kV kC kN kJ kL kF kO kQ kG kw kv kR A s h1 h2 o j H locs) (hl : lv_has ls 7 [(4, .int (nI (6 * j))), (3, .ref o), (2, .ref h2), (1, .ref h1), (0, .ref b)])
    (hgo : ∀ (H : Heap) (locs : List Loc) (ls : Array Slot) (cells slots : Nat), LwI dC dI kX kT kM kV kC kN kJ kL kF kO kQ kG kw kv kR A s h1 h2 o (j + 1) H locs → lv_has ls 7 [(4, .int (nI (6 * j))), (3, .ref o), (2, .ref h2), (1, .ref h1), (0, .ref b)] → W p l e room_1 s m #[Value.ref b] below meth c H locs cells slots (lw_Z below #[Value.ref b] s) (F0 m 1507 ls [])) : W p l e room_1 s m #[Value.ref b] below meth c H locs cells slots (lw_Z below #[Value.ref b] s) (F0 m 319 ls []) := by
  obtain ⟨hx, hb, hr, hml, hown, hts, hX, hbl, hlocks, hgv⟩ := id C0
  have hb : c.code = cL_law := hb
  have hown : s.vm.findClass RL = some m.cls := hown
  obtain ⟨hA, hA2, hE, hT9, hNc, hKC, hKV, hKR⟩ := E0
  have hbA : ¬ A b := fun h => absurd (hA2 b h) (Nat.not_le.mpr hbl)
  obtain ⟨T, th, Fc, Fs, w, v, g, hC, hR, hT, hP, hD, hS, hz, hn⟩ := hI
  have hbd := hC.bd
  refine W.tight (cells2 := Fc + 1000 * j + 125) (slots2 := Fs + 9000 * j + 181434) hz hn ?_
  refine lv_aload_n hx hb dL_law_319 rfl (lv_at hl 3 rfl) ?_
  refine lv_aload_n hx hb dL_law_320 rfl (lv_at hl 1 rfl) ?_
  refine lawH_i (y := yL_read) (ws := wsH_read) (mc := 39027) (ms := 608800) (As := [.ref h1, .ref o]) (rest := []) ⟨hx, hb, hml, hown, hts⟩ (H_read l hst dC dI kX kT kM kV kC kN kJ kL kF kO kQ kG kw h1 (((T.1 : Nat) : Int), T.2) Fc Fs w o kR g hC H.size) (vx_cwSW 2 hts gl_H_read rfl rfl rfl (by decide +kernel) ⟨Nat.le_of_ble_eq_true rfl, Nat.le_of_ble_eq_true rfl⟩) (hKR.app hKC) hE hNc hA hP hD hS rfl hl.1 (lv_room (Nat.le_of_ble_eq_true rfl)) dL_law_321 ⟨show Fc + 1000 * j + 125 + 39027 ≤ 327717 by omega, show Fs + 9000 * j + 181434 + 608800 ≤ 8118330 by omega⟩ (fun r1 u H1 locs1 hp hP hD hS hz1 hs1 => ?_)
  obtain ⟨hC1, hL1⟩ := hp
  refine W.tight (cells2 := u.2.1 + 1000 * (j + 1) + 125) (slots2 := u.2.2.1 + 9000 * (j + 1) + 181434) (by omega) (by omega) ?_
  have hbd1 := hC1.bd
  refine lv_istore hx hb dL_law_324 hl (by decide) rfl (fun ls (hl : lv_has ls _ ([(5, .int r1), (4, .int (nI (6 * j))), (3, .ref o), (2, .ref h2), (1, .ref h1), (0, .ref b)])) => ?_)
  refine lv_aload_n hx hb dL_law_326 rfl (lv_at hl 3 rfl) ?_
  refine lawR_i (y := yX12_read) (ws := wsRX12_read) (mc := 0) (ms := 0) (As := []) (rest := []) ⟨hx, hb, hml, hown, hts⟩ (R_read l dC dI kv h2 T th v hR H1.size) (cwV 0 hts gl_R_read rfl rfl rfl (by decide +kernel) ⟨Nat.le_of_ble_eq_true rfl, Nat.le_of_ble_eq_true rfl⟩) hR.recv hKV hT9 hA hP hD hS rfl hl.1 (lv_room (Nat.le_of_ble_eq_true rfl)) dL_law_327 ⟨show u.2.1 + 1000 * (j + 1) + 125 + 0 ≤ 327717 by omega, show u.2.2.1 + 9000 * (j + 1) + 181434 + 0 ≤ 8118330 by omega⟩ (fun r2 u2 H2 locs2 hp2 hP hD hS => ?_)
  obtain ⟨hR2, hT2⟩ := hp2
  refine lv_istore hx hb dL_law_330 hl (by decide) rfl (fun ls (hl : lv_has ls _ ([(6, .int r2), (5, .int r1), (4, .int (nI (6 * j))), (3, .ref o), (2, .ref h2), (1, .ref h1), (0, .ref b)])) => ?_)
  refine lv_goto (tgt := 1507) hx hb dL_law_332 (by decide) ?_
  refine W.known (fun z1 z2 => ?_)
  have hTT : (((((u2.1.1 : Nat) : Int), u2.1.2) : LT) = u.1 ∧ u2.1.1 ≤ 20 * (j + 1)) := ⟨by rw [hL1, hT2] <;> rfl, by rw [hT2]; first | omega | (dsimp only; omega)⟩
  exact hgo H2 locs2 ls _ _ ⟨u2.1, u2.2.1, u.2.1, u.2.2.1, u.2.2.2.1, u2.2.2, u.2.2.2.2, by rw [hTT.1]; exact hC1, hR2, hTT.2, hP, hD, hS, by omega, by omega⟩ (lv_sub hl [2, 3, 4, 5, 6] rfl)
set_option maxHeartbeats 4000000 in
set_option maxRecDepth 100000 in
/-- the law's case 4: fault -/
theorem lc_4 {p : Program} {e : Env} {s : State} {m : MethodId} {below : List Frame} {meth : Method} {c : Code} (l : Launch) (hst : l.stackTraces = false) {b Ls : Nat} {xs : Nat → Int32} (hLs : Ls ≤ 384) (C0 : lw_At p s m meth c b Ls xs) {A : Nat → Prop} (dC : Nat → ClassId) (dI : Nat → Nat → Nat) (kX : Nat → ClassId) (kT : Nat → ClassId) (kM : Nat → ClassId) (kV : Nat → ClassId) (kC : Nat → ClassId) (kN : Nat → ClassId) (kJ : Nat → ClassId) (kL : Nat → ClassId) (kF : Nat → ClassId) (kO : Nat → ClassId) (kQ : Nat → ClassId) (kG : Nat → ClassId) (kw : ClassId) (kv : Nat → ClassId) (kR : ClassId) (E0 : LwC dC dI kX kT kM kV kC kN kJ kL kF kO kQ kG kw kv kR A s) {h1 h2 o j : Nat} (hj : 6 * j + 6 ≤ Ls) {H : Heap} {locs : List Loc} {ls : Array Slot} {cells slots : Nat} (hI : LwI dC dI kX kT kM kV kC kN kJ kL kF kO kQ kG kw kv kR A s h1 h2 o j H locs) (hl : lv_has ls 7 [(4, .int (nI (6 * j))), (3, .ref o), (2, .ref h2), (1, .ref h1), (0, .ref b)])
    (hgo : ∀ (H : Heap) (locs : List Loc) (ls : Array Slot) (cells slots : Nat), LwI dC dI kX kT kM kV kC kN kJ kL kF kO kQ kG kw kv kR A s h1 h2 o (j + 1) H locs → lv_has ls 7 [(4, .int (nI (6 * j))), (3, .ref o), (2, .ref h2), (1, .ref h1), (0, .ref b)] → W p l e room_1 s m #[Value.ref b] below meth c H locs cells slots (lw_Z below #[Value.ref b] s) (F0 m 1507 ls [])) : W p l e room_1 s m #[Value.ref b] below meth c H locs cells slots (lw_Z below #[Value.ref b] s) (F0 m 335 ls []) := by
  obtain ⟨hx, hb, hr, hml, hown, hts, hX, hbl, hlocks, hgv⟩ := id C0
  have hb : c.code = cL_law := hb
  have hown : s.vm.findClass RL = some m.cls := hown
  obtain ⟨hA, hA2, hE, hT9, hNc, hKC, hKV, hKR⟩ := E0
  have hbA : ¬ A b := fun h => absurd (hA2 b h) (Nat.not_le.mpr hbl)
  obtain ⟨T, th, Fc, Fs, w, v, g, hC, hR, hT, hP, hD, hS, hz, hn⟩ := hI
  have hbd := hC.bd
  refine W.tight (cells2 := Fc + 1000 * j + 125) (slots2 := Fs + 9000 * j + 181434) hz hn ?_
  refine lv_aload_n hx hb dL_law_335 rfl (lv_at hl 3 rfl) ?_
  refine lw_arg hx hb hX hbl hbA hS (lv_at hl 4 rfl) (lv_at hl 0 rfl) 1 (by omega) hLs (by decide) dL_law_336 dL_law_337 dL_law_339 dL_law_340 dL_law_341 ?_
  refine lawC_i (y := yX11_fault) (ws := wsU_fault) (mc := 0) (ms := 0) (As := [.int (xs (6 * j + 1))]) (rest := []) ⟨hx, hb, hml, hown, hts⟩ (U_fault l hst dC dI kX kT kM kV kC kN kJ kL kF kO kQ kG kw h1 (((T.1 : Nat) : Int), T.2) Fc Fs w (xs (6 * j + 1)) hC H.size) (cwV 1 hts gl_C_fault rfl rfl rfl (by decide +kernel) ⟨Nat.le_of_ble_eq_true rfl, Nat.le_of_ble_eq_true rfl⟩) hC.recv hKC hE hA hP hD hS rfl hl.1 (lv_room (Nat.le_of_ble_eq_true rfl)) dL_law_342 ⟨show Fc + 1000 * j + 125 + 0 ≤ 327717 by omega, show Fs + 9000 * j + 181434 + 0 ≤ 8118330 by omega⟩ (fun r1 u H1 locs1 hp hP hD hS hz1 hs1 => ?_)
  obtain ⟨hC1, hL1⟩ := hp
  refine W.tight (cells2 := u.2.1 + 1000 * (j + 1) + 125) (slots2 := u.2.2.1 + 9000 * (j + 1) + 181434) (by omega) (by omega) ?_
  have hbd1 := hC1.bd
  refine lv_pop hx hb dL_law_345 rfl ?_
  refine lv_aload_n hx hb dL_law_346 rfl (lv_at hl 2 rfl) ?_
  refine lw_arg hx hb hX hbl hbA hS (lv_at hl 4 rfl) (lv_at hl 0 rfl) 1 (by omega) hLs (by decide) dL_law_347 dL_law_348 dL_law_350 dL_law_351 dL_law_352 ?_
  refine lawR_i (y := yX12_fault) (ws := wsRX12_fault) (mc := 0) (ms := 0) (As := [.int (xs (6 * j + 1))]) (rest := []) ⟨hx, hb, hml, hown, hts⟩ (R_fault l dC dI kv h2 T th v (xs (6 * j + 1)) hR H1.size) (cwV 1 hts gl_R_fault rfl rfl rfl (by decide +kernel) ⟨Nat.le_of_ble_eq_true rfl, Nat.le_of_ble_eq_true rfl⟩) hR.recv hKV hT9 hA hP hD hS rfl hl.1 (lv_room (Nat.le_of_ble_eq_true rfl)) dL_law_353 ⟨show u.2.1 + 1000 * (j + 1) + 125 + 0 ≤ 327717 by omega, show u.2.2.1 + 9000 * (j + 1) + 181434 + 0 ≤ 8118330 by omega⟩ (fun r2 u2 H2 locs2 hp2 hP hD hS => ?_)
  obtain ⟨hR2, hT2⟩ := hp2
  refine lv_pop hx hb dL_law_356 rfl ?_
  refine lv_goto (tgt := 1507) hx hb dL_law_357 (by decide) ?_
  refine W.known (fun z1 z2 => ?_)
  have hTT : (((((u2.1.1 : Nat) : Int), u2.1.2) : LT) = u.1 ∧ u2.1.1 ≤ 20 * (j + 1)) := ⟨by rw [hL1, hT2] <;> rfl, by rw [hT2]; first | omega | (dsimp only; omega)⟩
  exact hgo H2 locs2 ls _ _ ⟨u2.1, u2.2.1, u.2.1, u.2.2.1, u.2.2.2, u2.2.2, g, by rw [hTT.1]; exact hC1, hR2, hTT.2, hP, hD, hS, by omega, by omega⟩ (lv_sub hl [0, 1, 2, 3, 4] rfl)
set_option maxHeartbeats 4000000 in
set_option maxRecDepth 100000 in
/-- the law's case 5: variable -/
theorem lc_5 {p : Program} {e : Env} {s : State} {m : MethodId} {below : List Frame} {meth : Method} {c : Code} (l : Launch) (hst : l.stackTraces = false) {b Ls : Nat} {xs : Nat → Int32} (hLs : Ls ≤ 384) (C0 : lw_At p s m meth c b Ls xs) {A : Nat → Prop} (dC : Nat → ClassId) (dI : Nat → Nat → Nat) (kX : Nat → ClassId) (kT : Nat → ClassId) (kM : Nat → ClassId) (kV : Nat → ClassId) (kC : Nat → ClassId) (kN : Nat → ClassId) (kJ : Nat → ClassId) (kL : Nat → ClassId) (kF : Nat → ClassId) (kO : Nat → ClassId) (kQ : Nat → ClassId) (kG : Nat → ClassId) (kw : ClassId) (kv : Nat → ClassId) (kR : ClassId) (E0 : LwC dC dI kX kT kM kV kC kN kJ kL kF kO kQ kG kw kv kR A s) {h1 h2 o j : Nat} (hj : 6 * j + 6 ≤ Ls) {H : Heap} {locs : List Loc} {ls : Array Slot} {cells slots : Nat} (hI : LwI dC dI kX kT kM kV kC kN kJ kL kF kO kQ kG kw kv kR A s h1 h2 o j H locs) (hl : lv_has ls 7 [(4, .int (nI (6 * j))), (3, .ref o), (2, .ref h2), (1, .ref h1), (0, .ref b)])
    (hgo : ∀ (H : Heap) (locs : List Loc) (ls : Array Slot) (cells slots : Nat), LwI dC dI kX kT kM kV kC kN kJ kL kF kO kQ kG kw kv kR A s h1 h2 o (j + 1) H locs → lv_has ls 7 [(4, .int (nI (6 * j))), (3, .ref o), (2, .ref h2), (1, .ref h1), (0, .ref b)] → W p l e room_1 s m #[Value.ref b] below meth c H locs cells slots (lw_Z below #[Value.ref b] s) (F0 m 1507 ls [])) : W p l e room_1 s m #[Value.ref b] below meth c H locs cells slots (lw_Z below #[Value.ref b] s) (F0 m 360 ls []) := by
  obtain ⟨hx, hb, hr, hml, hown, hts, hX, hbl, hlocks, hgv⟩ := id C0
  have hb : c.code = cL_law := hb
  have hown : s.vm.findClass RL = some m.cls := hown
  obtain ⟨hA, hA2, hE, hT9, hNc, hKC, hKV, hKR⟩ := E0
  have hbA : ¬ A b := fun h => absurd (hA2 b h) (Nat.not_le.mpr hbl)
  obtain ⟨T, th, Fc, Fs, w, v, g, hC, hR, hT, hP, hD, hS, hz, hn⟩ := hI
  have hbd := hC.bd
  refine W.tight (cells2 := Fc + 1000 * j + 125) (slots2 := Fs + 9000 * j + 181434) hz hn ?_
  refine lv_aload_n hx hb dL_law_360 rfl (lv_at hl 3 rfl) ?_
  refine lw_arg hx hb hX hbl hbA hS (lv_at hl 4 rfl) (lv_at hl 0 rfl) 1 (by omega) hLs (by decide) dL_law_361 dL_law_362 dL_law_364 dL_law_365 dL_law_366 ?_
  refine lw_arg hx hb hX hbl hbA hS (lv_at hl 4 rfl) (lv_at hl 0 rfl) 2 (by omega) hLs (by decide) dL_law_367 dL_law_368 dL_law_370 dL_law_371 dL_law_372 ?_
  refine lv_aload_n hx hb dL_law_373 rfl (lv_at hl 1 rfl) ?_
  refine lawH_i (y := yL_variable) (ws := wsH_variable) (mc := 1) (ms := 6) (As := [.ref h1, .int (xs (6 * j + 1)), .int (xs (6 * j + 2)), .ref o]) (rest := []) ⟨hx, hb, hml, hown, hts⟩ (H_variable l hst dC dI kX kT kM kV kC kN kJ kL kF kO kQ kG kw h1 (((T.1 : Nat) : Int), T.2) Fc Fs w (xs (6 * j + 1)) (xs (6 * j + 2)) o kR g hC H.size) (vx_cwSW 4 hts gl_H_variable rfl rfl rfl (by decide +kernel) ⟨Nat.le_of_ble_eq_true rfl, Nat.le_of_ble_eq_true rfl⟩) (hKR.app hKC) hE hNc hA hP hD hS rfl hl.1 (lv_room (Nat.le_of_ble_eq_true rfl)) dL_law_374 ⟨show Fc + 1000 * j + 125 + 1 ≤ 327717 by omega, show Fs + 9000 * j + 181434 + 6 ≤ 8118330 by omega⟩ (fun r1 u H1 locs1 hp hP hD hS hz1 hs1 => ?_)
  obtain ⟨hC1, hL1⟩ := hp
  refine W.tight (cells2 := u.2.1 + 1000 * (j + 1) + 125) (slots2 := u.2.2.1 + 9000 * (j + 1) + 181434) (by omega) (by omega) ?_
  have hbd1 := hC1.bd
  refine lv_istore hx hb dL_law_377 hl (by decide) rfl (fun ls (hl : lv_has ls _ ([(5, .int r1), (4, .int (nI (6 * j))), (3, .ref o), (2, .ref h2), (1, .ref h1), (0, .ref b)])) => ?_)
  refine lv_aload_n hx hb dL_law_379 rfl (lv_at hl 3 rfl) ?_
  refine lw_arg hx hb hX hbl hbA hS (lv_at hl 5 rfl) (lv_at hl 1 rfl) 1 (by omega) hLs (by decide) dL_law_380 dL_law_381 dL_law_383 dL_law_384 dL_law_385 ?_
  refine lw_arg hx hb hX hbl hbA hS (lv_at hl 5 rfl) (lv_at hl 1 rfl) 2 (by omega) hLs (by decide) dL_law_386 dL_law_387 dL_law_389 dL_law_390 dL_law_391 ?_
  refine lawR_i (y := yX12_variable) (ws := wsRX12_variable) (mc := 0) (ms := 0) (As := [.int (xs (6 * j + 1)), .int (xs (6 * j + 2))]) (rest := []) ⟨hx, hb, hml, hown, hts⟩ (R_variable l dC dI kv h2 T th v (xs (6 * j + 1)) (xs (6 * j + 2)) hR H1.size) (cwV 2 hts gl_R_variable rfl rfl rfl (by decide +kernel) ⟨Nat.le_of_ble_eq_true rfl, Nat.le_of_ble_eq_true rfl⟩) hR.recv hKV hT9 hA hP hD hS rfl hl.1 (lv_room (Nat.le_of_ble_eq_true rfl)) dL_law_392 ⟨show u.2.1 + 1000 * (j + 1) + 125 + 0 ≤ 327717 by omega, show u.2.2.1 + 9000 * (j + 1) + 181434 + 0 ≤ 8118330 by omega⟩ (fun r2 u2 H2 locs2 hp2 hP hD hS => ?_)
  obtain ⟨hR2, hT2⟩ := hp2
  refine lv_istore hx hb dL_law_395 hl (by decide) rfl (fun ls (hl : lv_has ls _ ([(6, .int r2), (5, .int r1), (4, .int (nI (6 * j))), (3, .ref o), (2, .ref h2), (1, .ref h1), (0, .ref b)])) => ?_)
  refine lv_goto (tgt := 1507) hx hb dL_law_397 (by decide) ?_
  refine W.known (fun z1 z2 => ?_)
  have hTT : (((((u2.1.1 : Nat) : Int), u2.1.2) : LT) = u.1 ∧ u2.1.1 ≤ 20 * (j + 1)) := ⟨by rw [hL1, hT2] <;> rfl, by rw [hT2]; first | omega | (dsimp only; omega)⟩
  exact hgo H2 locs2 ls _ _ ⟨u2.1, u2.2.1, u.2.1, u.2.2.1, u.2.2.2.1, u2.2.2, u.2.2.2.2, by rw [hTT.1]; exact hC1, hR2, hTT.2, hP, hD, hS, by omega, by omega⟩ (lv_sub hl [2, 3, 4, 5, 6] rfl)
set_option maxHeartbeats 4000000 in
set_option maxRecDepth 100000 in
/-- the law's case 6: row -/
theorem lc_6 {p : Program} {e : Env} {s : State} {m : MethodId} {below : List Frame} {meth : Method} {c : Code} (l : Launch) (hst : l.stackTraces = false) {b Ls : Nat} {xs : Nat → Int32} (hLs : Ls ≤ 384) (C0 : lw_At p s m meth c b Ls xs) {A : Nat → Prop} (dC : Nat → ClassId) (dI : Nat → Nat → Nat) (kX : Nat → ClassId) (kT : Nat → ClassId) (kM : Nat → ClassId) (kV : Nat → ClassId) (kC : Nat → ClassId) (kN : Nat → ClassId) (kJ : Nat → ClassId) (kL : Nat → ClassId) (kF : Nat → ClassId) (kO : Nat → ClassId) (kQ : Nat → ClassId) (kG : Nat → ClassId) (kw : ClassId) (kv : Nat → ClassId) (kR : ClassId) (E0 : LwC dC dI kX kT kM kV kC kN kJ kL kF kO kQ kG kw kv kR A s) {h1 h2 o j : Nat} (hj : 6 * j + 6 ≤ Ls) {H : Heap} {locs : List Loc} {ls : Array Slot} {cells slots : Nat} (hI : LwI dC dI kX kT kM kV kC kN kJ kL kF kO kQ kG kw kv kR A s h1 h2 o j H locs) (hl : lv_has ls 7 [(4, .int (nI (6 * j))), (3, .ref o), (2, .ref h2), (1, .ref h1), (0, .ref b)])
    (hgo : ∀ (H : Heap) (locs : List Loc) (ls : Array Slot) (cells slots : Nat), LwI dC dI kX kT kM kV kC kN kJ kL kF kO kQ kG kw kv kR A s h1 h2 o (j + 1) H locs → lv_has ls 7 [(4, .int (nI (6 * j))), (3, .ref o), (2, .ref h2), (1, .ref h1), (0, .ref b)] → W p l e room_1 s m #[Value.ref b] below meth c H locs cells slots (lw_Z below #[Value.ref b] s) (F0 m 1507 ls [])) : W p l e room_1 s m #[Value.ref b] below meth c H locs cells slots (lw_Z below #[Value.ref b] s) (F0 m 400 ls []) := by
  obtain ⟨hx, hb, hr, hml, hown, hts, hX, hbl, hlocks, hgv⟩ := id C0
  have hb : c.code = cL_law := hb
  have hown : s.vm.findClass RL = some m.cls := hown
  obtain ⟨hA, hA2, hE, hT9, hNc, hKC, hKV, hKR⟩ := E0
  have hbA : ¬ A b := fun h => absurd (hA2 b h) (Nat.not_le.mpr hbl)
  obtain ⟨T, th, Fc, Fs, w, v, g, hC, hR, hT, hP, hD, hS, hz, hn⟩ := hI
  have hbd := hC.bd
  refine W.tight (cells2 := Fc + 1000 * j + 125) (slots2 := Fs + 9000 * j + 181434) hz hn ?_
  refine lv_aload_n hx hb dL_law_400 rfl (lv_at hl 3 rfl) ?_
  refine lw_arg hx hb hX hbl hbA hS (lv_at hl 4 rfl) (lv_at hl 0 rfl) 1 (by omega) hLs (by decide) dL_law_401 dL_law_402 dL_law_404 dL_law_405 dL_law_406 ?_
  refine lw_arg hx hb hX hbl hbA hS (lv_at hl 4 rfl) (lv_at hl 0 rfl) 2 (by omega) hLs (by decide) dL_law_407 dL_law_408 dL_law_410 dL_law_411 dL_law_412 ?_
  refine lw_arg hx hb hX hbl hbA hS (lv_at hl 4 rfl) (lv_at hl 0 rfl) 3 (by omega) hLs (by decide) dL_law_413 dL_law_414 dL_law_416 dL_law_417 dL_law_418 ?_
  refine lv_aload_n hx hb dL_law_419 rfl (lv_at hl 1 rfl) ?_
  refine lawH_i (y := yL_row) (ws := wsH_row) (mc := 1) (ms := 6) (As := [.ref h1, .int (xs (6 * j + 1)), .int (xs (6 * j + 2)), .int (xs (6 * j + 3)), .ref o]) (rest := []) ⟨hx, hb, hml, hown, hts⟩ (H_row l hst dC dI kX kT kM kV kC kN kJ kL kF kO kQ kG kw h1 (((T.1 : Nat) : Int), T.2) Fc Fs w (xs (6 * j + 1)) (xs (6 * j + 2)) (xs (6 * j + 3)) o kR g hC H.size) (vx_cwSW 5 hts gl_H_row rfl rfl rfl (by decide +kernel) ⟨Nat.le_of_ble_eq_true rfl, Nat.le_of_ble_eq_true rfl⟩) (hKR.app hKC) hE hNc hA hP hD hS rfl hl.1 (lv_room (Nat.le_of_ble_eq_true rfl)) dL_law_420 ⟨show Fc + 1000 * j + 125 + 1 ≤ 327717 by omega, show Fs + 9000 * j + 181434 + 6 ≤ 8118330 by omega⟩ (fun r1 u H1 locs1 hp hP hD hS hz1 hs1 => ?_)
  obtain ⟨hC1, hL1⟩ := hp
  refine W.tight (cells2 := u.2.1 + 1000 * (j + 1) + 125) (slots2 := u.2.2.1 + 9000 * (j + 1) + 181434) (by omega) (by omega) ?_
  have hbd1 := hC1.bd
  refine lv_istore hx hb dL_law_423 hl (by decide) rfl (fun ls (hl : lv_has ls _ ([(5, .int r1), (4, .int (nI (6 * j))), (3, .ref o), (2, .ref h2), (1, .ref h1), (0, .ref b)])) => ?_)
  refine lv_aload_n hx hb dL_law_425 rfl (lv_at hl 3 rfl) ?_
  refine lw_arg hx hb hX hbl hbA hS (lv_at hl 5 rfl) (lv_at hl 1 rfl) 1 (by omega) hLs (by decide) dL_law_426 dL_law_427 dL_law_429 dL_law_430 dL_law_431 ?_
  refine lw_arg hx hb hX hbl hbA hS (lv_at hl 5 rfl) (lv_at hl 1 rfl) 2 (by omega) hLs (by decide) dL_law_432 dL_law_433 dL_law_435 dL_law_436 dL_law_437 ?_
  refine lw_arg hx hb hX hbl hbA hS (lv_at hl 5 rfl) (lv_at hl 1 rfl) 3 (by omega) hLs (by decide) dL_law_438 dL_law_439 dL_law_441 dL_law_442 dL_law_443 ?_
  refine lawR_i (y := yX12_row) (ws := wsRX12_row) (mc := 0) (ms := 0) (As := [.int (xs (6 * j + 1)), .int (xs (6 * j + 2)), .int (xs (6 * j + 3))]) (rest := []) ⟨hx, hb, hml, hown, hts⟩ (R_row l dC dI kv h2 T th v (xs (6 * j + 1)) (xs (6 * j + 2)) (xs (6 * j + 3)) hR H1.size) (cwV 3 hts gl_R_row rfl rfl rfl (by decide +kernel) ⟨Nat.le_of_ble_eq_true rfl, Nat.le_of_ble_eq_true rfl⟩) hR.recv hKV hT9 hA hP hD hS rfl hl.1 (lv_room (Nat.le_of_ble_eq_true rfl)) dL_law_444 ⟨show u.2.1 + 1000 * (j + 1) + 125 + 0 ≤ 327717 by omega, show u.2.2.1 + 9000 * (j + 1) + 181434 + 0 ≤ 8118330 by omega⟩ (fun r2 u2 H2 locs2 hp2 hP hD hS => ?_)
  obtain ⟨hR2, hT2⟩ := hp2
  refine lv_istore hx hb dL_law_447 hl (by decide) rfl (fun ls (hl : lv_has ls _ ([(6, .int r2), (5, .int r1), (4, .int (nI (6 * j))), (3, .ref o), (2, .ref h2), (1, .ref h1), (0, .ref b)])) => ?_)
  refine lv_goto (tgt := 1507) hx hb dL_law_449 (by decide) ?_
  refine W.known (fun z1 z2 => ?_)
  have hTT : (((((u2.1.1 : Nat) : Int), u2.1.2) : LT) = u.1 ∧ u2.1.1 ≤ 20 * (j + 1)) := ⟨by rw [hL1, hT2] <;> rfl, by rw [hT2]; first | omega | (dsimp only; omega)⟩
  exact hgo H2 locs2 ls _ _ ⟨u2.1, u2.2.1, u.2.1, u.2.2.1, u.2.2.2.1, u2.2.2, u.2.2.2.2, by rw [hTT.1]; exact hC1, hR2, hTT.2, hP, hD, hS, by omega, by omega⟩ (lv_sub hl [2, 3, 4, 5, 6] rfl)
set_option maxHeartbeats 4000000 in
set_option maxRecDepth 100000 in
/-- the law's case 7: goal -/
theorem lc_7 {p : Program} {e : Env} {s : State} {m : MethodId} {below : List Frame} {meth : Method} {c : Code} (l : Launch) (hst : l.stackTraces = false) {b Ls : Nat} {xs : Nat → Int32} (hLs : Ls ≤ 384) (C0 : lw_At p s m meth c b Ls xs) {A : Nat → Prop} (dC : Nat → ClassId) (dI : Nat → Nat → Nat) (kX : Nat → ClassId) (kT : Nat → ClassId) (kM : Nat → ClassId) (kV : Nat → ClassId) (kC : Nat → ClassId) (kN : Nat → ClassId) (kJ : Nat → ClassId) (kL : Nat → ClassId) (kF : Nat → ClassId) (kO : Nat → ClassId) (kQ : Nat → ClassId) (kG : Nat → ClassId) (kw : ClassId) (kv : Nat → ClassId) (kR : ClassId) (E0 : LwC dC dI kX kT kM kV kC kN kJ kL kF kO kQ kG kw kv kR A s) {h1 h2 o j : Nat} (hj : 6 * j + 6 ≤ Ls) {H : Heap} {locs : List Loc} {ls : Array Slot} {cells slots : Nat} (hI : LwI dC dI kX kT kM kV kC kN kJ kL kF kO kQ kG kw kv kR A s h1 h2 o j H locs) (hl : lv_has ls 7 [(4, .int (nI (6 * j))), (3, .ref o), (2, .ref h2), (1, .ref h1), (0, .ref b)])
    (hgo : ∀ (H : Heap) (locs : List Loc) (ls : Array Slot) (cells slots : Nat), LwI dC dI kX kT kM kV kC kN kJ kL kF kO kQ kG kw kv kR A s h1 h2 o (j + 1) H locs → lv_has ls 7 [(4, .int (nI (6 * j))), (3, .ref o), (2, .ref h2), (1, .ref h1), (0, .ref b)] → W p l e room_1 s m #[Value.ref b] below meth c H locs cells slots (lw_Z below #[Value.ref b] s) (F0 m 1507 ls [])) : W p l e room_1 s m #[Value.ref b] below meth c H locs cells slots (lw_Z below #[Value.ref b] s) (F0 m 452 ls []) := by
  obtain ⟨hx, hb, hr, hml, hown, hts, hX, hbl, hlocks, hgv⟩ := id C0
  have hb : c.code = cL_law := hb
  have hown : s.vm.findClass RL = some m.cls := hown
  obtain ⟨hA, hA2, hE, hT9, hNc, hKC, hKV, hKR⟩ := E0
  have hbA : ¬ A b := fun h => absurd (hA2 b h) (Nat.not_le.mpr hbl)
  obtain ⟨T, th, Fc, Fs, w, v, g, hC, hR, hT, hP, hD, hS, hz, hn⟩ := hI
  have hbd := hC.bd
  refine W.tight (cells2 := Fc + 1000 * j + 125) (slots2 := Fs + 9000 * j + 181434) hz hn ?_
  refine lv_aload_n hx hb dL_law_452 rfl (lv_at hl 3 rfl) ?_
  refine lw_arg hx hb hX hbl hbA hS (lv_at hl 4 rfl) (lv_at hl 0 rfl) 1 (by omega) hLs (by decide) dL_law_453 dL_law_454 dL_law_456 dL_law_457 dL_law_458 ?_
  refine lw_arg hx hb hX hbl hbA hS (lv_at hl 4 rfl) (lv_at hl 0 rfl) 2 (by omega) hLs (by decide) dL_law_459 dL_law_460 dL_law_462 dL_law_463 dL_law_464 ?_
  refine lw_arg hx hb hX hbl hbA hS (lv_at hl 4 rfl) (lv_at hl 0 rfl) 3 (by omega) hLs (by decide) dL_law_465 dL_law_466 dL_law_468 dL_law_469 dL_law_470 ?_
  refine lv_if_eq (tgt := 478) hx hb dL_law_471 (by decide) (fun hc9 => ?_) (fun hc9 => ?_)
  · refine lv_iconst (v := 0) hx hb dL_law_478 (by decide) ?_
    refine lv_aload_n hx hb dL_law_479 rfl (lv_at hl 1 rfl) ?_
    refine lawH_i (y := yL_goal) (ws := wsH_goal) (mc := 1) (ms := 6) (As := [.ref h1, .int (xs (6 * j + 1)), .int (xs (6 * j + 2)), .int 0, .ref o]) (rest := []) ⟨hx, hb, hml, hown, hts⟩ (H_goal l hst dC dI kX kT kM kV kC kN kJ kL kF kO kQ kG kw h1 (((T.1 : Nat) : Int), T.2) Fc Fs w (xs (6 * j + 1)) (xs (6 * j + 2)) 0 o kR g hC H.size) (vx_cwSW 5 hts gl_H_goal rfl rfl rfl (by decide +kernel) ⟨Nat.le_of_ble_eq_true rfl, Nat.le_of_ble_eq_true rfl⟩) (hKR.app hKC) hE hNc hA hP hD hS rfl hl.1 (lv_room (Nat.le_of_ble_eq_true rfl)) dL_law_480 ⟨show Fc + 1000 * j + 125 + 1 ≤ 327717 by omega, show Fs + 9000 * j + 181434 + 6 ≤ 8118330 by omega⟩ (fun r1 u H1 locs1 hp hP hD hS hz1 hs1 => ?_)
    obtain ⟨hC1, hL1⟩ := hp
    refine W.tight (cells2 := u.2.1 + 1000 * (j + 1) + 125) (slots2 := u.2.2.1 + 9000 * (j + 1) + 181434) (by omega) (by omega) ?_
    have hbd1 := hC1.bd
    refine lv_istore hx hb dL_law_483 hl (by decide) rfl (fun ls (hl : lv_has ls _ ([(5, .int r1), (4, .int (nI (6 * j))), (3, .ref o), (2, .ref h2), (1, .ref h1), (0, .ref b)])) => ?_)
    refine lv_aload_n hx hb dL_law_485 rfl (lv_at hl 3 rfl) ?_
    refine lw_arg hx hb hX hbl hbA hS (lv_at hl 5 rfl) (lv_at hl 1 rfl) 1 (by omega) hLs (by decide) dL_law_486 dL_law_487 dL_law_489 dL_law_490 dL_law_491 ?_
    refine lw_arg hx hb hX hbl hbA hS (lv_at hl 5 rfl) (lv_at hl 1 rfl) 2 (by omega) hLs (by decide) dL_law_492 dL_law_493 dL_law_495 dL_law_496 dL_law_497 ?_
    refine lw_arg hx hb hX hbl hbA hS (lv_at hl 5 rfl) (lv_at hl 1 rfl) 3 (by omega) hLs (by decide) dL_law_498 dL_law_499 dL_law_501 dL_law_502 dL_law_503 ?_
    refine lv_if_eq (tgt := 511) hx hb dL_law_504 (by decide) (fun _ => ?_) (fun c9 => absurd hc9 c9)
    refine lv_iconst (v := 0) hx hb dL_law_511 (by decide) ?_
    refine lawR_i (y := yX12_goal) (ws := wsRX12_goal) (mc := 0) (ms := 0) (As := [.int (xs (6 * j + 1)), .int (xs (6 * j + 2)), .int 0]) (rest := []) ⟨hx, hb, hml, hown, hts⟩ (R_goal l dC dI kv h2 T th v (xs (6 * j + 1)) (xs (6 * j + 2)) (0) hR H1.size) (cwV 3 hts gl_R_goal rfl rfl rfl (by decide +kernel) ⟨Nat.le_of_ble_eq_true rfl, Nat.le_of_ble_eq_true rfl⟩) hR.recv hKV hT9 hA hP hD hS rfl hl.1 (lv_room (Nat.le_of_ble_eq_true rfl)) dL_law_512 ⟨show u.2.1 + 1000 * (j + 1) + 125 + 0 ≤ 327717 by omega, show u.2.2.1 + 9000 * (j + 1) + 181434 + 0 ≤ 8118330 by omega⟩ (fun r2 u2 H2 locs2 hp2 hP hD hS => ?_)
    obtain ⟨hR2, hT2⟩ := hp2
    refine lv_istore hx hb dL_law_515 hl (by decide) rfl (fun ls (hl : lv_has ls _ ([(6, .int r2), (5, .int r1), (4, .int (nI (6 * j))), (3, .ref o), (2, .ref h2), (1, .ref h1), (0, .ref b)])) => ?_)
    refine lv_goto (tgt := 1507) hx hb dL_law_517 (by decide) ?_
    refine W.known (fun z1 z2 => ?_)
    have hTT : (((((u2.1.1 : Nat) : Int), u2.1.2) : LT) = u.1 ∧ u2.1.1 ≤ 20 * (j + 1)) := ⟨by rw [hL1, hT2] <;> rfl, by rw [hT2]; first | omega | (dsimp only; omega)⟩
    exact hgo H2 locs2 ls _ _ ⟨u2.1, u2.2.1, u.2.1, u.2.2.1, u.2.2.2.1, u2.2.2, u.2.2.2.2, by rw [hTT.1]; exact hC1, hR2, hTT.2, hP, hD, hS, by omega, by omega⟩ (lv_sub hl [2, 3, 4, 5, 6] rfl)
  · refine lv_iconst (v := 1) hx hb dL_law_474 (by decide) ?_
    refine lv_goto (tgt := 479) hx hb dL_law_475 (by decide) ?_
    refine lv_aload_n hx hb dL_law_479 rfl (lv_at hl 1 rfl) ?_
    refine lawH_i (y := yL_goal) (ws := wsH_goal) (mc := 1) (ms := 6) (As := [.ref h1, .int (xs (6 * j + 1)), .int (xs (6 * j + 2)), .int 1, .ref o]) (rest := []) ⟨hx, hb, hml, hown, hts⟩ (H_goal l hst dC dI kX kT kM kV kC kN kJ kL kF kO kQ kG kw h1 (((T.1 : Nat) : Int), T.2) Fc Fs w (xs (6 * j + 1)) (xs (6 * j + 2)) 1 o kR g hC H.size) (vx_cwSW 5 hts gl_H_goal rfl rfl rfl (by decide +kernel) ⟨Nat.le_of_ble_eq_true rfl, Nat.le_of_ble_eq_true rfl⟩) (hKR.app hKC) hE hNc hA hP hD hS rfl hl.1 (lv_room (Nat.le_of_ble_eq_true rfl)) dL_law_480 ⟨show Fc + 1000 * j + 125 + 1 ≤ 327717 by omega, show Fs + 9000 * j + 181434 + 6 ≤ 8118330 by omega⟩ (fun r1 u H1 locs1 hp hP hD hS hz1 hs1 => ?_)
    obtain ⟨hC1, hL1⟩ := hp
    refine W.tight (cells2 := u.2.1 + 1000 * (j + 1) + 125) (slots2 := u.2.2.1 + 9000 * (j + 1) + 181434) (by omega) (by omega) ?_
    have hbd1 := hC1.bd
    refine lv_istore hx hb dL_law_483 hl (by decide) rfl (fun ls (hl : lv_has ls _ ([(5, .int r1), (4, .int (nI (6 * j))), (3, .ref o), (2, .ref h2), (1, .ref h1), (0, .ref b)])) => ?_)
    refine lv_aload_n hx hb dL_law_485 rfl (lv_at hl 3 rfl) ?_
    refine lw_arg hx hb hX hbl hbA hS (lv_at hl 5 rfl) (lv_at hl 1 rfl) 1 (by omega) hLs (by decide) dL_law_486 dL_law_487 dL_law_489 dL_law_490 dL_law_491 ?_
    refine lw_arg hx hb hX hbl hbA hS (lv_at hl 5 rfl) (lv_at hl 1 rfl) 2 (by omega) hLs (by decide) dL_law_492 dL_law_493 dL_law_495 dL_law_496 dL_law_497 ?_
    refine lw_arg hx hb hX hbl hbA hS (lv_at hl 5 rfl) (lv_at hl 1 rfl) 3 (by omega) hLs (by decide) dL_law_498 dL_law_499 dL_law_501 dL_law_502 dL_law_503 ?_
    refine lv_if_eq (tgt := 511) hx hb dL_law_504 (by decide) (fun c9 => absurd c9 hc9) (fun _ => ?_)
    refine lv_iconst (v := 1) hx hb dL_law_507 (by decide) ?_
    refine lv_goto (tgt := 512) hx hb dL_law_508 (by decide) ?_
    refine lawR_i (y := yX12_goal) (ws := wsRX12_goal) (mc := 0) (ms := 0) (As := [.int (xs (6 * j + 1)), .int (xs (6 * j + 2)), .int 1]) (rest := []) ⟨hx, hb, hml, hown, hts⟩ (R_goal l dC dI kv h2 T th v (xs (6 * j + 1)) (xs (6 * j + 2)) (1) hR H1.size) (cwV 3 hts gl_R_goal rfl rfl rfl (by decide +kernel) ⟨Nat.le_of_ble_eq_true rfl, Nat.le_of_ble_eq_true rfl⟩) hR.recv hKV hT9 hA hP hD hS rfl hl.1 (lv_room (Nat.le_of_ble_eq_true rfl)) dL_law_512 ⟨show u.2.1 + 1000 * (j + 1) + 125 + 0 ≤ 327717 by omega, show u.2.2.1 + 9000 * (j + 1) + 181434 + 0 ≤ 8118330 by omega⟩ (fun r2 u2 H2 locs2 hp2 hP hD hS => ?_)
    obtain ⟨hR2, hT2⟩ := hp2
    refine lv_istore hx hb dL_law_515 hl (by decide) rfl (fun ls (hl : lv_has ls _ ([(6, .int r2), (5, .int r1), (4, .int (nI (6 * j))), (3, .ref o), (2, .ref h2), (1, .ref h1), (0, .ref b)])) => ?_)
    refine lv_goto (tgt := 1507) hx hb dL_law_517 (by decide) ?_
    refine W.known (fun z1 z2 => ?_)
    have hTT : (((((u2.1.1 : Nat) : Int), u2.1.2) : LT) = u.1 ∧ u2.1.1 ≤ 20 * (j + 1)) := ⟨by rw [hL1, hT2] <;> rfl, by rw [hT2]; first | omega | (dsimp only; omega)⟩
    exact hgo H2 locs2 ls _ _ ⟨u2.1, u2.2.1, u.2.1, u.2.2.1, u.2.2.2.1, u2.2.2, u.2.2.2.2, by rw [hTT.1]; exact hC1, hR2, hTT.2, hP, hD, hS, by omega, by omega⟩ (lv_sub hl [2, 3, 4, 5, 6] rfl)
set_option maxHeartbeats 4000000 in
set_option maxRecDepth 100000 in
/-- the law's case 8: write -/
theorem lc_8 {p : Program} {e : Env} {s : State} {m : MethodId} {below : List Frame} {meth : Method} {c : Code} (l : Launch) (hst : l.stackTraces = false) {b Ls : Nat} {xs : Nat → Int32} (hLs : Ls ≤ 384) (C0 : lw_At p s m meth c b Ls xs) {A : Nat → Prop} (dC : Nat → ClassId) (dI : Nat → Nat → Nat) (kX : Nat → ClassId) (kT : Nat → ClassId) (kM : Nat → ClassId) (kV : Nat → ClassId) (kC : Nat → ClassId) (kN : Nat → ClassId) (kJ : Nat → ClassId) (kL : Nat → ClassId) (kF : Nat → ClassId) (kO : Nat → ClassId) (kQ : Nat → ClassId) (kG : Nat → ClassId) (kw : ClassId) (kv : Nat → ClassId) (kR : ClassId) (E0 : LwC dC dI kX kT kM kV kC kN kJ kL kF kO kQ kG kw kv kR A s) {h1 h2 o j : Nat} (hj : 6 * j + 6 ≤ Ls) {H : Heap} {locs : List Loc} {ls : Array Slot} {cells slots : Nat} (hI : LwI dC dI kX kT kM kV kC kN kJ kL kF kO kQ kG kw kv kR A s h1 h2 o j H locs) (hl : lv_has ls 7 [(4, .int (nI (6 * j))), (3, .ref o), (2, .ref h2), (1, .ref h1), (0, .ref b)])
    (hgo : ∀ (H : Heap) (locs : List Loc) (ls : Array Slot) (cells slots : Nat), LwI dC dI kX kT kM kV kC kN kJ kL kF kO kQ kG kw kv kR A s h1 h2 o (j + 1) H locs → lv_has ls 7 [(4, .int (nI (6 * j))), (3, .ref o), (2, .ref h2), (1, .ref h1), (0, .ref b)] → W p l e room_1 s m #[Value.ref b] below meth c H locs cells slots (lw_Z below #[Value.ref b] s) (F0 m 1507 ls [])) : W p l e room_1 s m #[Value.ref b] below meth c H locs cells slots (lw_Z below #[Value.ref b] s) (F0 m 520 ls []) := by
  obtain ⟨hx, hb, hr, hml, hown, hts, hX, hbl, hlocks, hgv⟩ := id C0
  have hb : c.code = cL_law := hb
  have hown : s.vm.findClass RL = some m.cls := hown
  obtain ⟨hA, hA2, hE, hT9, hNc, hKC, hKV, hKR⟩ := E0
  have hbA : ¬ A b := fun h => absurd (hA2 b h) (Nat.not_le.mpr hbl)
  obtain ⟨T, th, Fc, Fs, w, v, g, hC, hR, hT, hP, hD, hS, hz, hn⟩ := hI
  have hbd := hC.bd
  refine W.tight (cells2 := Fc + 1000 * j + 125) (slots2 := Fs + 9000 * j + 181434) hz hn ?_
  refine lv_aload_n hx hb dL_law_520 rfl (lv_at hl 3 rfl) ?_
  refine lv_aload_n hx hb dL_law_521 rfl (lv_at hl 1 rfl) ?_
  refine lawH_i (y := yL_write) (ws := wsH_write) (mc := 13126) (ms := 900000) (As := [.ref h1, .ref o]) (rest := []) ⟨hx, hb, hml, hown, hts⟩ (H_write l hst dC dI kX kT kM kV kC kN kJ kL kF kO kQ kG kw h1 (((T.1 : Nat) : Int), T.2) Fc Fs w o kR g hC H.size) (vx_cwSW 2 hts gl_H_write rfl rfl rfl (by decide +kernel) ⟨Nat.le_of_ble_eq_true rfl, Nat.le_of_ble_eq_true rfl⟩) (hKR.app hKC) hE hNc hA hP hD hS rfl hl.1 (lv_room (Nat.le_of_ble_eq_true rfl)) dL_law_522 ⟨show Fc + 1000 * j + 125 + 13126 ≤ 327717 by omega, show Fs + 9000 * j + 181434 + 900000 ≤ 8118330 by omega⟩ (fun r1 u H1 locs1 hp hP hD hS hz1 hs1 => ?_)
  obtain ⟨hC1, hL1⟩ := hp
  refine W.tight (cells2 := u.2.1 + 1000 * (j + 1) + 125) (slots2 := u.2.2.1 + 9000 * (j + 1) + 181434) (by omega) (by omega) ?_
  have hbd1 := hC1.bd
  refine lv_istore hx hb dL_law_525 hl (by decide) rfl (fun ls (hl : lv_has ls _ ([(5, .int r1), (4, .int (nI (6 * j))), (3, .ref o), (2, .ref h2), (1, .ref h1), (0, .ref b)])) => ?_)
  refine lv_aload_n hx hb dL_law_527 rfl (lv_at hl 3 rfl) ?_
  refine lawR_i (y := yX12_write) (ws := wsRX12_write) (mc := 0) (ms := 0) (As := []) (rest := []) ⟨hx, hb, hml, hown, hts⟩ (R_write l dC dI kv h2 T th v hR H1.size) (cwV 0 hts gl_R_write rfl rfl rfl (by decide +kernel) ⟨Nat.le_of_ble_eq_true rfl, Nat.le_of_ble_eq_true rfl⟩) hR.recv hKV hT9 hA hP hD hS rfl hl.1 (lv_room (Nat.le_of_ble_eq_true rfl)) dL_law_528 ⟨show u.2.1 + 1000 * (j + 1) + 125 + 0 ≤ 327717 by omega, show u.2.2.1 + 9000 * (j + 1) + 181434 + 0 ≤ 8118330 by omega⟩ (fun r2 u2 H2 locs2 hp2 hP hD hS => ?_)
  obtain ⟨hR2, hT2⟩ := hp2
  refine lv_istore hx hb dL_law_531 hl (by decide) rfl (fun ls (hl : lv_has ls _ ([(6, .int r2), (5, .int r1), (4, .int (nI (6 * j))), (3, .ref o), (2, .ref h2), (1, .ref h1), (0, .ref b)])) => ?_)
  refine lv_goto (tgt := 1507) hx hb dL_law_533 (by decide) ?_
  refine W.known (fun z1 z2 => ?_)
  have hTT : (((((u2.1.1 : Nat) : Int), u2.1.2) : LT) = u.1 ∧ u2.1.1 ≤ 20 * (j + 1)) := ⟨by rw [hL1, hT2] <;> rfl, by rw [hT2]; first | omega | (dsimp only; omega)⟩
  exact hgo H2 locs2 ls _ _ ⟨u2.1, u2.2.1, u.2.1, u.2.2.1, u.2.2.2.1, u2.2.2, u.2.2.2.2, by rw [hTT.1]; exact hC1, hR2, hTT.2, hP, hD, hS, by omega, by omega⟩ (lv_sub hl [2, 3, 4, 5, 6] rfl)
set_option maxHeartbeats 4000000 in
set_option maxRecDepth 100000 in
/-- the law's case 9: solve -/
theorem lc_9 {p : Program} {e : Env} {s : State} {m : MethodId} {below : List Frame} {meth : Method} {c : Code} (l : Launch) (hst : l.stackTraces = false) {b Ls : Nat} {xs : Nat → Int32} (hLs : Ls ≤ 384) (C0 : lw_At p s m meth c b Ls xs) {A : Nat → Prop} (dC : Nat → ClassId) (dI : Nat → Nat → Nat) (kX : Nat → ClassId) (kT : Nat → ClassId) (kM : Nat → ClassId) (kV : Nat → ClassId) (kC : Nat → ClassId) (kN : Nat → ClassId) (kJ : Nat → ClassId) (kL : Nat → ClassId) (kF : Nat → ClassId) (kO : Nat → ClassId) (kQ : Nat → ClassId) (kG : Nat → ClassId) (kw : ClassId) (kv : Nat → ClassId) (kR : ClassId) (E0 : LwC dC dI kX kT kM kV kC kN kJ kL kF kO kQ kG kw kv kR A s) {h1 h2 o j : Nat} (hj : 6 * j + 6 ≤ Ls) {H : Heap} {locs : List Loc} {ls : Array Slot} {cells slots : Nat} (hI : LwI dC dI kX kT kM kV kC kN kJ kL kF kO kQ kG kw kv kR A s h1 h2 o j H locs) (hl : lv_has ls 7 [(4, .int (nI (6 * j))), (3, .ref o), (2, .ref h2), (1, .ref h1), (0, .ref b)])
    (hgo : ∀ (H : Heap) (locs : List Loc) (ls : Array Slot) (cells slots : Nat), LwI dC dI kX kT kM kV kC kN kJ kL kF kO kQ kG kw kv kR A s h1 h2 o (j + 1) H locs → lv_has ls 7 [(4, .int (nI (6 * j))), (3, .ref o), (2, .ref h2), (1, .ref h1), (0, .ref b)] → W p l e room_1 s m #[Value.ref b] below meth c H locs cells slots (lw_Z below #[Value.ref b] s) (F0 m 1507 ls [])) : W p l e room_1 s m #[Value.ref b] below meth c H locs cells slots (lw_Z below #[Value.ref b] s) (F0 m 536 ls []) := by
  obtain ⟨hx, hb, hr, hml, hown, hts, hX, hbl, hlocks, hgv⟩ := id C0
  have hb : c.code = cL_law := hb
  have hown : s.vm.findClass RL = some m.cls := hown
  obtain ⟨hA, hA2, hE, hT9, hNc, hKC, hKV, hKR⟩ := E0
  have hbA : ¬ A b := fun h => absurd (hA2 b h) (Nat.not_le.mpr hbl)
  obtain ⟨T, th, Fc, Fs, w, v, g, hC, hR, hT, hP, hD, hS, hz, hn⟩ := hI
  have hbd := hC.bd
  refine W.tight (cells2 := Fc + 1000 * j + 125) (slots2 := Fs + 9000 * j + 181434) hz hn ?_
  refine lv_aload_n hx hb dL_law_536 rfl (lv_at hl 3 rfl) ?_
  refine lw_arg hx hb hX hbl hbA hS (lv_at hl 4 rfl) (lv_at hl 0 rfl) 1 (by omega) hLs (by decide) dL_law_537 dL_law_538 dL_law_540 dL_law_541 dL_law_542 ?_
  refine lv_if_eq (tgt := 550) hx hb dL_law_543 (by decide) (fun hc9 => ?_) (fun hc9 => ?_)
  · refine lv_iconst (v := 0) hx hb dL_law_550 (by decide) ?_
    refine lv_aload_n hx hb dL_law_551 rfl (lv_at hl 1 rfl) ?_
    refine lawH_i (y := yL_solve) (ws := wsH_solve) (mc := 880) (ms := 8040) (As := [.ref h1, .int 0, .ref o]) (rest := []) ⟨hx, hb, hml, hown, hts⟩ (H_solve l hst dC dI kX kT kM kV kC kN kJ kL kF kO kQ kG kw h1 (((T.1 : Nat) : Int), T.2) Fc Fs w 0 o kR g hC (by decide) H.size) (vx_cwSW 3 hts gl_H_solve rfl rfl rfl (by decide +kernel) ⟨Nat.le_of_ble_eq_true rfl, Nat.le_of_ble_eq_true rfl⟩) (hKR.app hKC) hE hNc hA hP hD hS rfl hl.1 (lv_room (Nat.le_of_ble_eq_true rfl)) dL_law_552 ⟨show Fc + 1000 * j + 125 + 880 ≤ 327717 by omega, show Fs + 9000 * j + 181434 + 8040 ≤ 8118330 by omega⟩ (fun r1 u H1 locs1 hp hP hD hS hz1 hs1 => ?_)
    obtain ⟨hC1, hL1⟩ := hp
    refine W.tight (cells2 := u.2.1 + 1000 * (j + 1) + 125) (slots2 := u.2.2.1 + 9000 * (j + 1) + 181434) (by omega) (by omega) ?_
    have hbd1 := hC1.bd
    refine lv_istore hx hb dL_law_555 hl (by decide) rfl (fun ls (hl : lv_has ls _ ([(5, .int r1), (4, .int (nI (6 * j))), (3, .ref o), (2, .ref h2), (1, .ref h1), (0, .ref b)])) => ?_)
    refine lv_aload_n hx hb dL_law_557 rfl (lv_at hl 3 rfl) ?_
    refine lw_arg hx hb hX hbl hbA hS (lv_at hl 5 rfl) (lv_at hl 1 rfl) 1 (by omega) hLs (by decide) dL_law_558 dL_law_559 dL_law_561 dL_law_562 dL_law_563 ?_
    refine lv_if_eq (tgt := 571) hx hb dL_law_564 (by decide) (fun _ => ?_) (fun c9 => absurd hc9 c9)
    refine lv_iconst (v := 0) hx hb dL_law_571 (by decide) ?_
    refine lawR_i (y := yX12_solve) (ws := wsRX12_solve) (mc := 0) (ms := 0) (As := [.int 0]) (rest := []) ⟨hx, hb, hml, hown, hts⟩ (R_solve l dC dI kv h2 T th v (0) hR H1.size) (cwV 1 hts gl_R_solve rfl rfl rfl (by decide +kernel) ⟨Nat.le_of_ble_eq_true rfl, Nat.le_of_ble_eq_true rfl⟩) hR.recv hKV hT9 hA hP hD hS rfl hl.1 (lv_room (Nat.le_of_ble_eq_true rfl)) dL_law_572 ⟨show u.2.1 + 1000 * (j + 1) + 125 + 0 ≤ 327717 by omega, show u.2.2.1 + 9000 * (j + 1) + 181434 + 0 ≤ 8118330 by omega⟩ (fun r2 u2 H2 locs2 hp2 hP hD hS => ?_)
    obtain ⟨hR2, hT2⟩ := hp2
    refine lv_istore hx hb dL_law_575 hl (by decide) rfl (fun ls (hl : lv_has ls _ ([(6, .int r2), (5, .int r1), (4, .int (nI (6 * j))), (3, .ref o), (2, .ref h2), (1, .ref h1), (0, .ref b)])) => ?_)
    refine lv_goto (tgt := 1507) hx hb dL_law_577 (by decide) ?_
    refine W.known (fun z1 z2 => ?_)
    have hTT : (((((u2.1.1 : Nat) : Int), u2.1.2) : LT) = u.1 ∧ u2.1.1 ≤ 20 * (j + 1)) := ⟨by rw [hL1, hT2] <;> rfl, by rw [hT2]; first | omega | (dsimp only; omega)⟩
    exact hgo H2 locs2 ls _ _ ⟨u2.1, u2.2.1, u.2.1, u.2.2.1, u.2.2.2.1, u2.2.2, u.2.2.2.2, by rw [hTT.1]; exact hC1, hR2, hTT.2, hP, hD, hS, by omega, by omega⟩ (lv_sub hl [2, 3, 4, 5, 6] rfl)
  · refine lv_iconst (v := 1) hx hb dL_law_546 (by decide) ?_
    refine lv_goto (tgt := 551) hx hb dL_law_547 (by decide) ?_
    refine lv_aload_n hx hb dL_law_551 rfl (lv_at hl 1 rfl) ?_
    refine lawH_i (y := yL_solve) (ws := wsH_solve) (mc := 880) (ms := 8040) (As := [.ref h1, .int 1, .ref o]) (rest := []) ⟨hx, hb, hml, hown, hts⟩ (H_solve l hst dC dI kX kT kM kV kC kN kJ kL kF kO kQ kG kw h1 (((T.1 : Nat) : Int), T.2) Fc Fs w 1 o kR g hC (by decide) H.size) (vx_cwSW 3 hts gl_H_solve rfl rfl rfl (by decide +kernel) ⟨Nat.le_of_ble_eq_true rfl, Nat.le_of_ble_eq_true rfl⟩) (hKR.app hKC) hE hNc hA hP hD hS rfl hl.1 (lv_room (Nat.le_of_ble_eq_true rfl)) dL_law_552 ⟨show Fc + 1000 * j + 125 + 880 ≤ 327717 by omega, show Fs + 9000 * j + 181434 + 8040 ≤ 8118330 by omega⟩ (fun r1 u H1 locs1 hp hP hD hS hz1 hs1 => ?_)
    obtain ⟨hC1, hL1⟩ := hp
    refine W.tight (cells2 := u.2.1 + 1000 * (j + 1) + 125) (slots2 := u.2.2.1 + 9000 * (j + 1) + 181434) (by omega) (by omega) ?_
    have hbd1 := hC1.bd
    refine lv_istore hx hb dL_law_555 hl (by decide) rfl (fun ls (hl : lv_has ls _ ([(5, .int r1), (4, .int (nI (6 * j))), (3, .ref o), (2, .ref h2), (1, .ref h1), (0, .ref b)])) => ?_)
    refine lv_aload_n hx hb dL_law_557 rfl (lv_at hl 3 rfl) ?_
    refine lw_arg hx hb hX hbl hbA hS (lv_at hl 5 rfl) (lv_at hl 1 rfl) 1 (by omega) hLs (by decide) dL_law_558 dL_law_559 dL_law_561 dL_law_562 dL_law_563 ?_
    refine lv_if_eq (tgt := 571) hx hb dL_law_564 (by decide) (fun c9 => absurd c9 hc9) (fun _ => ?_)
    refine lv_iconst (v := 1) hx hb dL_law_567 (by decide) ?_
    refine lv_goto (tgt := 572) hx hb dL_law_568 (by decide) ?_
    refine lawR_i (y := yX12_solve) (ws := wsRX12_solve) (mc := 0) (ms := 0) (As := [.int 1]) (rest := []) ⟨hx, hb, hml, hown, hts⟩ (R_solve l dC dI kv h2 T th v (1) hR H1.size) (cwV 1 hts gl_R_solve rfl rfl rfl (by decide +kernel) ⟨Nat.le_of_ble_eq_true rfl, Nat.le_of_ble_eq_true rfl⟩) hR.recv hKV hT9 hA hP hD hS rfl hl.1 (lv_room (Nat.le_of_ble_eq_true rfl)) dL_law_572 ⟨show u.2.1 + 1000 * (j + 1) + 125 + 0 ≤ 327717 by omega, show u.2.2.1 + 9000 * (j + 1) + 181434 + 0 ≤ 8118330 by omega⟩ (fun r2 u2 H2 locs2 hp2 hP hD hS => ?_)
    obtain ⟨hR2, hT2⟩ := hp2
    refine lv_istore hx hb dL_law_575 hl (by decide) rfl (fun ls (hl : lv_has ls _ ([(6, .int r2), (5, .int r1), (4, .int (nI (6 * j))), (3, .ref o), (2, .ref h2), (1, .ref h1), (0, .ref b)])) => ?_)
    refine lv_goto (tgt := 1507) hx hb dL_law_577 (by decide) ?_
    refine W.known (fun z1 z2 => ?_)
    have hTT : (((((u2.1.1 : Nat) : Int), u2.1.2) : LT) = u.1 ∧ u2.1.1 ≤ 20 * (j + 1)) := ⟨by rw [hL1, hT2] <;> rfl, by rw [hT2]; first | omega | (dsimp only; omega)⟩
    exact hgo H2 locs2 ls _ _ ⟨u2.1, u2.2.1, u.2.1, u.2.2.1, u.2.2.2.1, u2.2.2, u.2.2.2.2, by rw [hTT.1]; exact hC1, hR2, hTT.2, hP, hD, hS, by omega, by omega⟩ (lv_sub hl [2, 3, 4, 5, 6] rfl)
set_option maxHeartbeats 4000000 in
set_option maxRecDepth 100000 in
/-- the law's case 10: value -/
theorem lc_10 {p : Program} {e : Env} {s : State} {m : MethodId} {below : List Frame} {meth : Method} {c : Code} (l : Launch) (hst : l.stackTraces = false) {b Ls : Nat} {xs : Nat → Int32} (hLs : Ls ≤ 384) (C0 : lw_At p s m meth c b Ls xs) {A : Nat → Prop} (dC : Nat → ClassId) (dI : Nat → Nat → Nat) (kX : Nat → ClassId) (kT : Nat → ClassId) (kM : Nat → ClassId) (kV : Nat → ClassId) (kC : Nat → ClassId) (kN : Nat → ClassId) (kJ : Nat → ClassId) (kL : Nat → ClassId) (kF : Nat → ClassId) (kO : Nat → ClassId) (kQ : Nat → ClassId) (kG : Nat → ClassId) (kw : ClassId) (kv : Nat → ClassId) (kR : ClassId) (E0 : LwC dC dI kX kT kM kV kC kN kJ kL kF kO kQ kG kw kv kR A s) {h1 h2 o j : Nat} (hj : 6 * j + 6 ≤ Ls) {H : Heap} {locs : List Loc} {ls : Array Slot} {cells slots : Nat} (hI : LwI dC dI kX kT kM kV kC kN kJ kL kF kO kQ kG kw kv kR A s h1 h2 o j H locs) (hl : lv_has ls 7 [(4, .int (nI (6 * j))), (3, .ref o), (2, .ref h2), (1, .ref h1), (0, .ref b)])
    (hgo : ∀ (H : Heap) (locs : List Loc) (ls : Array Slot) (cells slots : Nat), LwI dC dI kX kT kM kV kC kN kJ kL kF kO kQ kG kw kv kR A s h1 h2 o (j + 1) H locs → lv_has ls 7 [(4, .int (nI (6 * j))), (3, .ref o), (2, .ref h2), (1, .ref h1), (0, .ref b)] → W p l e room_1 s m #[Value.ref b] below meth c H locs cells slots (lw_Z below #[Value.ref b] s) (F0 m 1507 ls [])) : W p l e room_1 s m #[Value.ref b] below meth c H locs cells slots (lw_Z below #[Value.ref b] s) (F0 m 580 ls []) := by
  obtain ⟨hx, hb, hr, hml, hown, hts, hX, hbl, hlocks, hgv⟩ := id C0
  have hb : c.code = cL_law := hb
  have hown : s.vm.findClass RL = some m.cls := hown
  obtain ⟨hA, hA2, hE, hT9, hNc, hKC, hKV, hKR⟩ := E0
  have hbA : ¬ A b := fun h => absurd (hA2 b h) (Nat.not_le.mpr hbl)
  obtain ⟨T, th, Fc, Fs, w, v, g, hC, hR, hT, hP, hD, hS, hz, hn⟩ := hI
  have hbd := hC.bd
  refine W.tight (cells2 := Fc + 1000 * j + 125) (slots2 := Fs + 9000 * j + 181434) hz hn ?_
  refine lv_aload_n hx hb dL_law_580 rfl (lv_at hl 3 rfl) ?_
  refine lw_arg hx hb hX hbl hbA hS (lv_at hl 4 rfl) (lv_at hl 0 rfl) 1 (by omega) hLs (by decide) dL_law_581 dL_law_582 dL_law_584 dL_law_585 dL_law_586 ?_
  refine lv_aload_n hx hb dL_law_587 rfl (lv_at hl 1 rfl) ?_
  refine lawH_i (y := yL_value) (ws := wsH_value) (mc := 7501) (ms := 540000) (As := [.ref h1, .int (xs (6 * j + 1)), .ref o]) (rest := []) ⟨hx, hb, hml, hown, hts⟩ (H_value l hst dC dI kX kT kM kV kC kN kJ kL kF kO kQ kG kw h1 (((T.1 : Nat) : Int), T.2) Fc Fs w (xs (6 * j + 1)) o kR g hC H.size) (vx_cwSW 3 hts gl_H_value rfl rfl rfl (by decide +kernel) ⟨Nat.le_of_ble_eq_true rfl, Nat.le_of_ble_eq_true rfl⟩) (hKR.app hKC) hE hNc hA hP hD hS rfl hl.1 (lv_room (Nat.le_of_ble_eq_true rfl)) dL_law_588 ⟨show Fc + 1000 * j + 125 + 7501 ≤ 327717 by omega, show Fs + 9000 * j + 181434 + 540000 ≤ 8118330 by omega⟩ (fun r1 u H1 locs1 hp hP hD hS hz1 hs1 => ?_)
  obtain ⟨hC1, hL1⟩ := hp
  refine W.tight (cells2 := u.2.1 + 1000 * (j + 1) + 125) (slots2 := u.2.2.1 + 9000 * (j + 1) + 181434) (by omega) (by omega) ?_
  have hbd1 := hC1.bd
  refine lv_istore hx hb dL_law_591 hl (by decide) rfl (fun ls (hl : lv_has ls _ ([(5, .int r1), (4, .int (nI (6 * j))), (3, .ref o), (2, .ref h2), (1, .ref h1), (0, .ref b)])) => ?_)
  refine lv_aload_n hx hb dL_law_593 rfl (lv_at hl 3 rfl) ?_
  refine lw_arg hx hb hX hbl hbA hS (lv_at hl 5 rfl) (lv_at hl 1 rfl) 1 (by omega) hLs (by decide) dL_law_594 dL_law_595 dL_law_597 dL_law_598 dL_law_599 ?_
  refine lawR_i (y := yX12_value) (ws := wsRX12_value) (mc := 0) (ms := 0) (As := [.int (xs (6 * j + 1))]) (rest := []) ⟨hx, hb, hml, hown, hts⟩ (R_value l dC dI kv h2 T th v (xs (6 * j + 1)) hR H1.size) (cwV 1 hts gl_R_value rfl rfl rfl (by decide +kernel) ⟨Nat.le_of_ble_eq_true rfl, Nat.le_of_ble_eq_true rfl⟩) hR.recv hKV hT9 hA hP hD hS rfl hl.1 (lv_room (Nat.le_of_ble_eq_true rfl)) dL_law_600 ⟨show u.2.1 + 1000 * (j + 1) + 125 + 0 ≤ 327717 by omega, show u.2.2.1 + 9000 * (j + 1) + 181434 + 0 ≤ 8118330 by omega⟩ (fun r2 u2 H2 locs2 hp2 hP hD hS => ?_)
  obtain ⟨hR2, hT2⟩ := hp2
  refine lv_istore hx hb dL_law_603 hl (by decide) rfl (fun ls (hl : lv_has ls _ ([(6, .int r2), (5, .int r1), (4, .int (nI (6 * j))), (3, .ref o), (2, .ref h2), (1, .ref h1), (0, .ref b)])) => ?_)
  refine lv_goto (tgt := 1507) hx hb dL_law_605 (by decide) ?_
  refine W.known (fun z1 z2 => ?_)
  have hTT : (((((u2.1.1 : Nat) : Int), u2.1.2) : LT) = u.1 ∧ u2.1.1 ≤ 20 * (j + 1)) := ⟨by rw [hL1, hT2] <;> rfl, by rw [hT2]; first | omega | (dsimp only; omega)⟩
  exact hgo H2 locs2 ls _ _ ⟨u2.1, u2.2.1, u.2.1, u.2.2.1, u.2.2.2.1, u2.2.2, u.2.2.2.2, by rw [hTT.1]; exact hC1, hR2, hTT.2, hP, hD, hS, by omega, by omega⟩ (lv_sub hl [2, 3, 4, 5, 6] rfl)
set_option maxHeartbeats 4000000 in
set_option maxRecDepth 100000 in
/-- the law's case 11: best -/
theorem lc_11 {p : Program} {e : Env} {s : State} {m : MethodId} {below : List Frame} {meth : Method} {c : Code} (l : Launch) (hst : l.stackTraces = false) {b Ls : Nat} {xs : Nat → Int32} (hLs : Ls ≤ 384) (C0 : lw_At p s m meth c b Ls xs) {A : Nat → Prop} (dC : Nat → ClassId) (dI : Nat → Nat → Nat) (kX : Nat → ClassId) (kT : Nat → ClassId) (kM : Nat → ClassId) (kV : Nat → ClassId) (kC : Nat → ClassId) (kN : Nat → ClassId) (kJ : Nat → ClassId) (kL : Nat → ClassId) (kF : Nat → ClassId) (kO : Nat → ClassId) (kQ : Nat → ClassId) (kG : Nat → ClassId) (kw : ClassId) (kv : Nat → ClassId) (kR : ClassId) (E0 : LwC dC dI kX kT kM kV kC kN kJ kL kF kO kQ kG kw kv kR A s) {h1 h2 o j : Nat} (hj : 6 * j + 6 ≤ Ls) {H : Heap} {locs : List Loc} {ls : Array Slot} {cells slots : Nat} (hI : LwI dC dI kX kT kM kV kC kN kJ kL kF kO kQ kG kw kv kR A s h1 h2 o j H locs) (hl : lv_has ls 7 [(4, .int (nI (6 * j))), (3, .ref o), (2, .ref h2), (1, .ref h1), (0, .ref b)])
    (hgo : ∀ (H : Heap) (locs : List Loc) (ls : Array Slot) (cells slots : Nat), LwI dC dI kX kT kM kV kC kN kJ kL kF kO kQ kG kw kv kR A s h1 h2 o (j + 1) H locs → lv_has ls 7 [(4, .int (nI (6 * j))), (3, .ref o), (2, .ref h2), (1, .ref h1), (0, .ref b)] → W p l e room_1 s m #[Value.ref b] below meth c H locs cells slots (lw_Z below #[Value.ref b] s) (F0 m 1507 ls [])) : W p l e room_1 s m #[Value.ref b] below meth c H locs cells slots (lw_Z below #[Value.ref b] s) (F0 m 608 ls []) := by
  obtain ⟨hx, hb, hr, hml, hown, hts, hX, hbl, hlocks, hgv⟩ := id C0
  have hb : c.code = cL_law := hb
  have hown : s.vm.findClass RL = some m.cls := hown
  obtain ⟨hA, hA2, hE, hT9, hNc, hKC, hKV, hKR⟩ := E0
  have hbA : ¬ A b := fun h => absurd (hA2 b h) (Nat.not_le.mpr hbl)
  obtain ⟨T, th, Fc, Fs, w, v, g, hC, hR, hT, hP, hD, hS, hz, hn⟩ := hI
  have hbd := hC.bd
  refine W.tight (cells2 := Fc + 1000 * j + 125) (slots2 := Fs + 9000 * j + 181434) hz hn ?_
  refine lv_aload_n hx hb dL_law_608 rfl (lv_at hl 3 rfl) ?_
  refine lw_arg hx hb hX hbl hbA hS (lv_at hl 4 rfl) (lv_at hl 0 rfl) 1 (by omega) hLs (by decide) dL_law_609 dL_law_610 dL_law_612 dL_law_613 dL_law_614 ?_
  refine lv_aload_n hx hb dL_law_615 rfl (lv_at hl 1 rfl) ?_
  refine lawH_i (y := yL_best) (ws := wsH_best) (mc := 7501) (ms := 540000) (As := [.ref h1, .int (xs (6 * j + 1)), .ref o]) (rest := []) ⟨hx, hb, hml, hown, hts⟩ (H_best l hst dC dI kX kT kM kV kC kN kJ kL kF kO kQ kG kw h1 (((T.1 : Nat) : Int), T.2) Fc Fs w (xs (6 * j + 1)) o kR g hC H.size) (vx_cwSW 3 hts gl_H_best rfl rfl rfl (by decide +kernel) ⟨Nat.le_of_ble_eq_true rfl, Nat.le_of_ble_eq_true rfl⟩) (hKR.app hKC) hE hNc hA hP hD hS rfl hl.1 (lv_room (Nat.le_of_ble_eq_true rfl)) dL_law_616 ⟨show Fc + 1000 * j + 125 + 7501 ≤ 327717 by omega, show Fs + 9000 * j + 181434 + 540000 ≤ 8118330 by omega⟩ (fun r1 u H1 locs1 hp hP hD hS hz1 hs1 => ?_)
  obtain ⟨hC1, hL1⟩ := hp
  refine W.tight (cells2 := u.2.1 + 1000 * (j + 1) + 125) (slots2 := u.2.2.1 + 9000 * (j + 1) + 181434) (by omega) (by omega) ?_
  have hbd1 := hC1.bd
  refine lv_istore hx hb dL_law_619 hl (by decide) rfl (fun ls (hl : lv_has ls _ ([(5, .int r1), (4, .int (nI (6 * j))), (3, .ref o), (2, .ref h2), (1, .ref h1), (0, .ref b)])) => ?_)
  refine lv_aload_n hx hb dL_law_621 rfl (lv_at hl 3 rfl) ?_
  refine lw_arg hx hb hX hbl hbA hS (lv_at hl 5 rfl) (lv_at hl 1 rfl) 1 (by omega) hLs (by decide) dL_law_622 dL_law_623 dL_law_625 dL_law_626 dL_law_627 ?_
  refine lawR_i (y := yX12_best) (ws := wsRX12_best) (mc := 0) (ms := 0) (As := [.int (xs (6 * j + 1))]) (rest := []) ⟨hx, hb, hml, hown, hts⟩ (R_best l dC dI kv h2 T th v (xs (6 * j + 1)) hR H1.size) (cwV 1 hts gl_R_best rfl rfl rfl (by decide +kernel) ⟨Nat.le_of_ble_eq_true rfl, Nat.le_of_ble_eq_true rfl⟩) hR.recv hKV hT9 hA hP hD hS rfl hl.1 (lv_room (Nat.le_of_ble_eq_true rfl)) dL_law_628 ⟨show u.2.1 + 1000 * (j + 1) + 125 + 0 ≤ 327717 by omega, show u.2.2.1 + 9000 * (j + 1) + 181434 + 0 ≤ 8118330 by omega⟩ (fun r2 u2 H2 locs2 hp2 hP hD hS => ?_)
  obtain ⟨hR2, hT2⟩ := hp2
  refine lv_istore hx hb dL_law_631 hl (by decide) rfl (fun ls (hl : lv_has ls _ ([(6, .int r2), (5, .int r1), (4, .int (nI (6 * j))), (3, .ref o), (2, .ref h2), (1, .ref h1), (0, .ref b)])) => ?_)
  refine lv_goto (tgt := 1507) hx hb dL_law_633 (by decide) ?_
  refine W.known (fun z1 z2 => ?_)
  have hTT : (((((u2.1.1 : Nat) : Int), u2.1.2) : LT) = u.1 ∧ u2.1.1 ≤ 20 * (j + 1)) := ⟨by rw [hL1, hT2] <;> rfl, by rw [hT2]; first | omega | (dsimp only; omega)⟩
  exact hgo H2 locs2 ls _ _ ⟨u2.1, u2.2.1, u.2.1, u.2.2.1, u.2.2.2.1, u2.2.2, u.2.2.2.2, by rw [hTT.1]; exact hC1, hR2, hTT.2, hP, hD, hS, by omega, by omega⟩ (lv_sub hl [2, 3, 4, 5, 6] rfl)
set_option maxHeartbeats 4000000 in
set_option maxRecDepth 100000 in
/-- the law's case 12: way -/
theorem lc_12 {p : Program} {e : Env} {s : State} {m : MethodId} {below : List Frame} {meth : Method} {c : Code} (l : Launch) (hst : l.stackTraces = false) {b Ls : Nat} {xs : Nat → Int32} (hLs : Ls ≤ 384) (C0 : lw_At p s m meth c b Ls xs) {A : Nat → Prop} (dC : Nat → ClassId) (dI : Nat → Nat → Nat) (kX : Nat → ClassId) (kT : Nat → ClassId) (kM : Nat → ClassId) (kV : Nat → ClassId) (kC : Nat → ClassId) (kN : Nat → ClassId) (kJ : Nat → ClassId) (kL : Nat → ClassId) (kF : Nat → ClassId) (kO : Nat → ClassId) (kQ : Nat → ClassId) (kG : Nat → ClassId) (kw : ClassId) (kv : Nat → ClassId) (kR : ClassId) (E0 : LwC dC dI kX kT kM kV kC kN kJ kL kF kO kQ kG kw kv kR A s) {h1 h2 o j : Nat} (hj : 6 * j + 6 ≤ Ls) {H : Heap} {locs : List Loc} {ls : Array Slot} {cells slots : Nat} (hI : LwI dC dI kX kT kM kV kC kN kJ kL kF kO kQ kG kw kv kR A s h1 h2 o j H locs) (hl : lv_has ls 7 [(4, .int (nI (6 * j))), (3, .ref o), (2, .ref h2), (1, .ref h1), (0, .ref b)])
    (hgo : ∀ (H : Heap) (locs : List Loc) (ls : Array Slot) (cells slots : Nat), LwI dC dI kX kT kM kV kC kN kJ kL kF kO kQ kG kw kv kR A s h1 h2 o (j + 1) H locs → lv_has ls 7 [(4, .int (nI (6 * j))), (3, .ref o), (2, .ref h2), (1, .ref h1), (0, .ref b)] → W p l e room_1 s m #[Value.ref b] below meth c H locs cells slots (lw_Z below #[Value.ref b] s) (F0 m 1507 ls [])) : W p l e room_1 s m #[Value.ref b] below meth c H locs cells slots (lw_Z below #[Value.ref b] s) (F0 m 636 ls []) := by
  obtain ⟨hx, hb, hr, hml, hown, hts, hX, hbl, hlocks, hgv⟩ := id C0
  have hb : c.code = cL_law := hb
  have hown : s.vm.findClass RL = some m.cls := hown
  obtain ⟨hA, hA2, hE, hT9, hNc, hKC, hKV, hKR⟩ := E0
  have hbA : ¬ A b := fun h => absurd (hA2 b h) (Nat.not_le.mpr hbl)
  obtain ⟨T, th, Fc, Fs, w, v, g, hC, hR, hT, hP, hD, hS, hz, hn⟩ := hI
  have hbd := hC.bd
  refine W.tight (cells2 := Fc + 1000 * j + 125) (slots2 := Fs + 9000 * j + 181434) hz hn ?_
  refine lv_aload_n hx hb dL_law_636 rfl (lv_at hl 3 rfl) ?_
  refine lw_arg hx hb hX hbl hbA hS (lv_at hl 4 rfl) (lv_at hl 0 rfl) 1 (by omega) hLs (by decide) dL_law_637 dL_law_638 dL_law_640 dL_law_641 dL_law_642 ?_
  refine lv_aload_n hx hb dL_law_643 rfl (lv_at hl 1 rfl) ?_
  refine lawH_i (y := yL_way) (ws := wsH_way) (mc := 1) (ms := 6) (As := [.ref h1, .int (xs (6 * j + 1)), .ref o]) (rest := []) ⟨hx, hb, hml, hown, hts⟩ (H_way l hst dC dI kX kT kM kV kC kN kJ kL kF kO kQ kG kw h1 (((T.1 : Nat) : Int), T.2) Fc Fs w (xs (6 * j + 1)) o kR g hC H.size) (vx_cwSW 3 hts gl_H_way rfl rfl rfl (by decide +kernel) ⟨Nat.le_of_ble_eq_true rfl, Nat.le_of_ble_eq_true rfl⟩) (hKR.app hKC) hE hNc hA hP hD hS rfl hl.1 (lv_room (Nat.le_of_ble_eq_true rfl)) dL_law_644 ⟨show Fc + 1000 * j + 125 + 1 ≤ 327717 by omega, show Fs + 9000 * j + 181434 + 6 ≤ 8118330 by omega⟩ (fun r1 u H1 locs1 hp hP hD hS hz1 hs1 => ?_)
  obtain ⟨hC1, hL1⟩ := hp
  refine W.tight (cells2 := u.2.1 + 1000 * (j + 1) + 125) (slots2 := u.2.2.1 + 9000 * (j + 1) + 181434) (by omega) (by omega) ?_
  have hbd1 := hC1.bd
  refine lv_istore hx hb dL_law_647 hl (by decide) rfl (fun ls (hl : lv_has ls _ ([(5, .int r1), (4, .int (nI (6 * j))), (3, .ref o), (2, .ref h2), (1, .ref h1), (0, .ref b)])) => ?_)
  refine lv_aload_n hx hb dL_law_649 rfl (lv_at hl 3 rfl) ?_
  refine lw_arg hx hb hX hbl hbA hS (lv_at hl 5 rfl) (lv_at hl 1 rfl) 1 (by omega) hLs (by decide) dL_law_650 dL_law_651 dL_law_653 dL_law_654 dL_law_655 ?_
  refine lawR_i (y := yX12_way) (ws := wsRX12_way) (mc := 0) (ms := 0) (As := [.int (xs (6 * j + 1))]) (rest := []) ⟨hx, hb, hml, hown, hts⟩ (R_way l dC dI kv h2 T th v (xs (6 * j + 1)) hR H1.size) (cwV 1 hts gl_R_way rfl rfl rfl (by decide +kernel) ⟨Nat.le_of_ble_eq_true rfl, Nat.le_of_ble_eq_true rfl⟩) hR.recv hKV hT9 hA hP hD hS rfl hl.1 (lv_room (Nat.le_of_ble_eq_true rfl)) dL_law_656 ⟨show u.2.1 + 1000 * (j + 1) + 125 + 0 ≤ 327717 by omega, show u.2.2.1 + 9000 * (j + 1) + 181434 + 0 ≤ 8118330 by omega⟩ (fun r2 u2 H2 locs2 hp2 hP hD hS => ?_)
  obtain ⟨hR2, hT2⟩ := hp2
  refine lv_istore hx hb dL_law_659 hl (by decide) rfl (fun ls (hl : lv_has ls _ ([(6, .int r2), (5, .int r1), (4, .int (nI (6 * j))), (3, .ref o), (2, .ref h2), (1, .ref h1), (0, .ref b)])) => ?_)
  refine lv_goto (tgt := 1507) hx hb dL_law_661 (by decide) ?_
  refine W.known (fun z1 z2 => ?_)
  have hTT : (((((u2.1.1 : Nat) : Int), u2.1.2) : LT) = u.1 ∧ u2.1.1 ≤ 20 * (j + 1)) := ⟨by rw [hL1, hT2] <;> rfl, by rw [hT2]; first | omega | (dsimp only; omega)⟩
  exact hgo H2 locs2 ls _ _ ⟨u2.1, u2.2.1, u.2.1, u.2.2.1, u.2.2.2.1, u2.2.2, u.2.2.2.2, by rw [hTT.1]; exact hC1, hR2, hTT.2, hP, hD, hS, by omega, by omega⟩ (lv_sub hl [2, 3, 4, 5, 6] rfl)
end
section
set_option maxHeartbeats 4000000 in
set_option maxRecDepth 100000 in
/-- the law's case 13: count -/
theorem lc_13 {p : Program} {e : Env} {s : State} {m : MethodId} {below : List Frame} {meth : Method} {c : Code} (l : Launch) (hst : l.stackTraces = false) {b Ls : Nat} {xs : Nat → Int32} (hLs : Ls ≤ 384) (C0 : lw_At p s m meth c b Ls xs) {A : Nat → Prop} (dC : Nat → ClassId) (dI : Nat → Nat → Nat) (kX : Nat → ClassId) (kT : Nat → ClassId) (kM : Nat → ClassId) (kV : Nat → ClassId) (kC : Nat → ClassId) (kN : Nat → ClassId) (kJ : Nat → ClassId) (kL : Nat → ClassId) (kF : Nat → ClassId) (kO : Nat → ClassId) (kQ : Nat → ClassId) (kG : Nat → ClassId) (kw : ClassId) (kv : Nat → ClassId) (kR : ClassId) (E0 : LwC dC dI kX kT kM kV kC kN kJ kL kF kO kQ kG kw kv kR A s) {h1 h2 o j : Nat} (hj : 6 * j + 6 ≤ Ls) {H : Heap} {locs : List Loc} {ls : Array Slot} {cells slots : Nat} (hI : LwI dC dI kX kT kM kV kC kN kJ kL kF kO kQ kG kw kv kR A s h1 h2 o j H locs) (hl : lv_has ls 7 [(4, .int (nI (6 * j))), (3, .ref o), (2, .ref h2), (1, .ref h1), (0, .ref b)])
    (hgo : ∀ (H : Heap) (locs : List Loc) (ls : Array Slot) (cells slots : Nat), LwI dC dI kX kT kM kV kC kN kJ kL kF kO kQ kG kw kv kR A s h1 h2 o (j + 1) H locs → lv_has ls 7 [(4, .int (nI (6 * j))), (3, .ref o), (2, .ref h2), (1, .ref h1), (0, .ref b)] → W p l e room_1 s m #[Value.ref b] below meth c H locs cells slots (lw_Z below #[Value.ref b] s) (F0 m 1507 ls [])) : W p l e room_1 s m #[Value.ref b] below meth c H locs cells slots (lw_Z below #[Value.ref b] s) (F0 m 664 ls []) := by
  obtain ⟨hx, hb, hr, hml, hown, hts, hX, hbl, hlocks, hgv⟩ := id C0
  have hb : c.code = cL_law := hb
  have hown : s.vm.findClass RL = some m.cls := hown
  obtain ⟨hA, hA2, hE, hT9, hNc, hKC, hKV, hKR⟩ := E0
  have hbA : ¬ A b := fun h => absurd (hA2 b h) (Nat.not_le.mpr hbl)
  obtain ⟨T, th, Fc, Fs, w, v, g, hC, hR, hT, hP, hD, hS, hz, hn⟩ := hI
  have hbd := hC.bd
  refine W.tight (cells2 := Fc + 1000 * j + 125) (slots2 := Fs + 9000 * j + 181434) hz hn ?_
  refine lv_aload_n hx hb dL_law_664 rfl (lv_at hl 3 rfl) ?_
  refine lv_aload_n hx hb dL_law_665 rfl (lv_at hl 1 rfl) ?_
  refine lawH_i (y := yL_count) (ws := wsH_count) (mc := 880) (ms := 8040) (As := [.ref h1, .ref o]) (rest := []) ⟨hx, hb, hml, hown, hts⟩ (H_count l hst dC dI kX kT kM kV kC kN kJ kL kF kO kQ kG kw h1 (((T.1 : Nat) : Int), T.2) Fc Fs w o kR g hC H.size) (vx_cwSW 2 hts gl_H_count rfl rfl rfl (by decide +kernel) ⟨Nat.le_of_ble_eq_true rfl, Nat.le_of_ble_eq_true rfl⟩) (hKR.app hKC) hE hNc hA hP hD hS rfl hl.1 (lv_room (Nat.le_of_ble_eq_true rfl)) dL_law_666 ⟨show Fc + 1000 * j + 125 + 880 ≤ 327717 by omega, show Fs + 9000 * j + 181434 + 8040 ≤ 8118330 by omega⟩ (fun r1 u H1 locs1 hp hP hD hS hz1 hs1 => ?_)
  obtain ⟨hC1, hL1⟩ := hp
  refine W.tight (cells2 := u.2.1 + 1000 * (j + 1) + 125) (slots2 := u.2.2.1 + 9000 * (j + 1) + 181434) (by omega) (by omega) ?_
  have hbd1 := hC1.bd
  refine lv_istore hx hb dL_law_669 hl (by decide) rfl (fun ls (hl : lv_has ls _ ([(5, .int r1), (4, .int (nI (6 * j))), (3, .ref o), (2, .ref h2), (1, .ref h1), (0, .ref b)])) => ?_)
  refine lv_aload_n hx hb dL_law_671 rfl (lv_at hl 3 rfl) ?_
  refine lawR_i (y := yX12_count) (ws := wsRX12_count) (mc := 0) (ms := 0) (As := []) (rest := []) ⟨hx, hb, hml, hown, hts⟩ (R_count l dC dI kv h2 T th v hR H1.size) (cwV 0 hts gl_R_count rfl rfl rfl (by decide +kernel) ⟨Nat.le_of_ble_eq_true rfl, Nat.le_of_ble_eq_true rfl⟩) hR.recv hKV hT9 hA hP hD hS rfl hl.1 (lv_room (Nat.le_of_ble_eq_true rfl)) dL_law_672 ⟨show u.2.1 + 1000 * (j + 1) + 125 + 0 ≤ 327717 by omega, show u.2.2.1 + 9000 * (j + 1) + 181434 + 0 ≤ 8118330 by omega⟩ (fun r2 u2 H2 locs2 hp2 hP hD hS => ?_)
  obtain ⟨hR2, hT2⟩ := hp2
  refine lv_istore hx hb dL_law_675 hl (by decide) rfl (fun ls (hl : lv_has ls _ ([(6, .int r2), (5, .int r1), (4, .int (nI (6 * j))), (3, .ref o), (2, .ref h2), (1, .ref h1), (0, .ref b)])) => ?_)
  refine lv_goto (tgt := 1507) hx hb dL_law_677 (by decide) ?_
  refine W.known (fun z1 z2 => ?_)
  have hTT : (((((u2.1.1 : Nat) : Int), u2.1.2) : LT) = u.1 ∧ u2.1.1 ≤ 20 * (j + 1)) := ⟨by rw [hL1, hT2] <;> rfl, by rw [hT2]; first | omega | (dsimp only; omega)⟩
  exact hgo H2 locs2 ls _ _ ⟨u2.1, u2.2.1, u.2.1, u.2.2.1, u.2.2.2.1, u2.2.2, u.2.2.2.2, by rw [hTT.1]; exact hC1, hR2, hTT.2, hP, hD, hS, by omega, by omega⟩ (lv_sub hl [2, 3, 4, 5, 6] rfl)
set_option maxHeartbeats 4000000 in
set_option maxRecDepth 100000 in
/-- the law's case 14: counted -/
theorem lc_14 {p : Program} {e : Env} {s : State} {m : MethodId} {below : List Frame} {meth : Method} {c : Code} (l : Launch) (hst : l.stackTraces = false) {b Ls : Nat} {xs : Nat → Int32} (hLs : Ls ≤ 384) (C0 : lw_At p s m meth c b Ls xs) {A : Nat → Prop} (dC : Nat → ClassId) (dI : Nat → Nat → Nat) (kX : Nat → ClassId) (kT : Nat → ClassId) (kM : Nat → ClassId) (kV : Nat → ClassId) (kC : Nat → ClassId) (kN : Nat → ClassId) (kJ : Nat → ClassId) (kL : Nat → ClassId) (kF : Nat → ClassId) (kO : Nat → ClassId) (kQ : Nat → ClassId) (kG : Nat → ClassId) (kw : ClassId) (kv : Nat → ClassId) (kR : ClassId) (E0 : LwC dC dI kX kT kM kV kC kN kJ kL kF kO kQ kG kw kv kR A s) {h1 h2 o j : Nat} (hj : 6 * j + 6 ≤ Ls) {H : Heap} {locs : List Loc} {ls : Array Slot} {cells slots : Nat} (hI : LwI dC dI kX kT kM kV kC kN kJ kL kF kO kQ kG kw kv kR A s h1 h2 o j H locs) (hl : lv_has ls 7 [(4, .int (nI (6 * j))), (3, .ref o), (2, .ref h2), (1, .ref h1), (0, .ref b)])
    (hgo : ∀ (H : Heap) (locs : List Loc) (ls : Array Slot) (cells slots : Nat), LwI dC dI kX kT kM kV kC kN kJ kL kF kO kQ kG kw kv kR A s h1 h2 o (j + 1) H locs → lv_has ls 7 [(4, .int (nI (6 * j))), (3, .ref o), (2, .ref h2), (1, .ref h1), (0, .ref b)] → W p l e room_1 s m #[Value.ref b] below meth c H locs cells slots (lw_Z below #[Value.ref b] s) (F0 m 1507 ls [])) : W p l e room_1 s m #[Value.ref b] below meth c H locs cells slots (lw_Z below #[Value.ref b] s) (F0 m 680 ls []) := by
  obtain ⟨hx, hb, hr, hml, hown, hts, hX, hbl, hlocks, hgv⟩ := id C0
  have hb : c.code = cL_law := hb
  have hown : s.vm.findClass RL = some m.cls := hown
  obtain ⟨hA, hA2, hE, hT9, hNc, hKC, hKV, hKR⟩ := E0
  have hbA : ¬ A b := fun h => absurd (hA2 b h) (Nat.not_le.mpr hbl)
  obtain ⟨T, th, Fc, Fs, w, v, g, hC, hR, hT, hP, hD, hS, hz, hn⟩ := hI
  have hbd := hC.bd
  refine W.tight (cells2 := Fc + 1000 * j + 125) (slots2 := Fs + 9000 * j + 181434) hz hn ?_
  refine lv_aload_n hx hb dL_law_680 rfl (lv_at hl 3 rfl) ?_
  refine lw_arg hx hb hX hbl hbA hS (lv_at hl 4 rfl) (lv_at hl 0 rfl) 1 (by omega) hLs (by decide) dL_law_681 dL_law_682 dL_law_684 dL_law_685 dL_law_686 ?_
  refine lw_arg hx hb hX hbl hbA hS (lv_at hl 4 rfl) (lv_at hl 0 rfl) 2 (by omega) hLs (by decide) dL_law_687 dL_law_688 dL_law_690 dL_law_691 dL_law_692 ?_
  refine lv_aload_n hx hb dL_law_693 rfl (lv_at hl 1 rfl) ?_
  refine lawH_i (y := yL_counted) (ws := wsH_counted) (mc := 880) (ms := 8040) (As := [.ref h1, .int (xs (6 * j + 1)), .int (xs (6 * j + 2)), .ref o]) (rest := []) ⟨hx, hb, hml, hown, hts⟩ (H_counted l hst dC dI kX kT kM kV kC kN kJ kL kF kO kQ kG kw h1 (((T.1 : Nat) : Int), T.2) Fc Fs w (xs (6 * j + 1)) (xs (6 * j + 2)) o kR g hC H.size) (vx_cwSW 4 hts gl_H_counted rfl rfl rfl (by decide +kernel) ⟨Nat.le_of_ble_eq_true rfl, Nat.le_of_ble_eq_true rfl⟩) (hKR.app hKC) hE hNc hA hP hD hS rfl hl.1 (lv_room (Nat.le_of_ble_eq_true rfl)) dL_law_694 ⟨show Fc + 1000 * j + 125 + 880 ≤ 327717 by omega, show Fs + 9000 * j + 181434 + 8040 ≤ 8118330 by omega⟩ (fun r1 u H1 locs1 hp hP hD hS hz1 hs1 => ?_)
  obtain ⟨hC1, hL1⟩ := hp
  refine W.tight (cells2 := u.2.1 + 1000 * (j + 1) + 125) (slots2 := u.2.2.1 + 9000 * (j + 1) + 181434) (by omega) (by omega) ?_
  have hbd1 := hC1.bd
  refine lv_istore hx hb dL_law_697 hl (by decide) rfl (fun ls (hl : lv_has ls _ ([(5, .int r1), (4, .int (nI (6 * j))), (3, .ref o), (2, .ref h2), (1, .ref h1), (0, .ref b)])) => ?_)
  refine lv_aload_n hx hb dL_law_699 rfl (lv_at hl 3 rfl) ?_
  refine lw_arg hx hb hX hbl hbA hS (lv_at hl 5 rfl) (lv_at hl 1 rfl) 1 (by omega) hLs (by decide) dL_law_700 dL_law_701 dL_law_703 dL_law_704 dL_law_705 ?_
  refine lw_arg hx hb hX hbl hbA hS (lv_at hl 5 rfl) (lv_at hl 1 rfl) 2 (by omega) hLs (by decide) dL_law_706 dL_law_707 dL_law_709 dL_law_710 dL_law_711 ?_
  refine lawR_i (y := yX12_counted) (ws := wsRX12_counted) (mc := 0) (ms := 0) (As := [.int (xs (6 * j + 1)), .int (xs (6 * j + 2))]) (rest := []) ⟨hx, hb, hml, hown, hts⟩ (R_counted l dC dI kv h2 T th v (xs (6 * j + 1)) (xs (6 * j + 2)) hR H1.size) (cwV 2 hts gl_R_counted rfl rfl rfl (by decide +kernel) ⟨Nat.le_of_ble_eq_true rfl, Nat.le_of_ble_eq_true rfl⟩) hR.recv hKV hT9 hA hP hD hS rfl hl.1 (lv_room (Nat.le_of_ble_eq_true rfl)) dL_law_712 ⟨show u.2.1 + 1000 * (j + 1) + 125 + 0 ≤ 327717 by omega, show u.2.2.1 + 9000 * (j + 1) + 181434 + 0 ≤ 8118330 by omega⟩ (fun r2 u2 H2 locs2 hp2 hP hD hS => ?_)
  obtain ⟨hR2, hT2⟩ := hp2
  refine lv_istore hx hb dL_law_715 hl (by decide) rfl (fun ls (hl : lv_has ls _ ([(6, .int r2), (5, .int r1), (4, .int (nI (6 * j))), (3, .ref o), (2, .ref h2), (1, .ref h1), (0, .ref b)])) => ?_)
  refine lv_goto (tgt := 1507) hx hb dL_law_717 (by decide) ?_
  refine W.known (fun z1 z2 => ?_)
  have hTT : (((((u2.1.1 : Nat) : Int), u2.1.2) : LT) = u.1 ∧ u2.1.1 ≤ 20 * (j + 1)) := ⟨by rw [hL1, hT2] <;> rfl, by rw [hT2]; first | omega | (dsimp only; omega)⟩
  exact hgo H2 locs2 ls _ _ ⟨u2.1, u2.2.1, u.2.1, u.2.2.1, u.2.2.2.1, u2.2.2, u.2.2.2.2, by rw [hTT.1]; exact hC1, hR2, hTT.2, hP, hD, hS, by omega, by omega⟩ (lv_sub hl [2, 3, 4, 5, 6] rfl)
set_option maxHeartbeats 4000000 in
set_option maxRecDepth 100000 in
/-- the law's case 15: prove -/
theorem lc_15 {p : Program} {e : Env} {s : State} {m : MethodId} {below : List Frame} {meth : Method} {c : Code} (l : Launch) (hst : l.stackTraces = false) {b Ls : Nat} {xs : Nat → Int32} (hLs : Ls ≤ 384) (C0 : lw_At p s m meth c b Ls xs) {A : Nat → Prop} (dC : Nat → ClassId) (dI : Nat → Nat → Nat) (kX : Nat → ClassId) (kT : Nat → ClassId) (kM : Nat → ClassId) (kV : Nat → ClassId) (kC : Nat → ClassId) (kN : Nat → ClassId) (kJ : Nat → ClassId) (kL : Nat → ClassId) (kF : Nat → ClassId) (kO : Nat → ClassId) (kQ : Nat → ClassId) (kG : Nat → ClassId) (kw : ClassId) (kv : Nat → ClassId) (kR : ClassId) (E0 : LwC dC dI kX kT kM kV kC kN kJ kL kF kO kQ kG kw kv kR A s) {h1 h2 o j : Nat} (hj : 6 * j + 6 ≤ Ls) {H : Heap} {locs : List Loc} {ls : Array Slot} {cells slots : Nat} (hI : LwI dC dI kX kT kM kV kC kN kJ kL kF kO kQ kG kw kv kR A s h1 h2 o j H locs) (hl : lv_has ls 7 [(4, .int (nI (6 * j))), (3, .ref o), (2, .ref h2), (1, .ref h1), (0, .ref b)])
    (hgo : ∀ (H : Heap) (locs : List Loc) (ls : Array Slot) (cells slots : Nat), LwI dC dI kX kT kM kV kC kN kJ kL kF kO kQ kG kw kv kR A s h1 h2 o (j + 1) H locs → lv_has ls 7 [(4, .int (nI (6 * j))), (3, .ref o), (2, .ref h2), (1, .ref h1), (0, .ref b)] → W p l e room_1 s m #[Value.ref b] below meth c H locs cells slots (lw_Z below #[Value.ref b] s) (F0 m 1507 ls [])) : W p l e room_1 s m #[Value.ref b] below meth c H locs cells slots (lw_Z below #[Value.ref b] s) (F0 m 720 ls []) := by
  obtain ⟨hx, hb, hr, hml, hown, hts, hX, hbl, hlocks, hgv⟩ := id C0
  have hb : c.code = cL_law := hb
  have hown : s.vm.findClass RL = some m.cls := hown
  obtain ⟨hA, hA2, hE, hT9, hNc, hKC, hKV, hKR⟩ := E0
  have hbA : ¬ A b := fun h => absurd (hA2 b h) (Nat.not_le.mpr hbl)
  obtain ⟨T, th, Fc, Fs, w, v, g, hC, hR, hT, hP, hD, hS, hz, hn⟩ := hI
  have hbd := hC.bd
  refine W.tight (cells2 := Fc + 1000 * j + 125) (slots2 := Fs + 9000 * j + 181434) hz hn ?_
  refine lv_aload_n hx hb dL_law_720 rfl (lv_at hl 3 rfl) ?_
  refine lv_aload_n hx hb dL_law_721 rfl (lv_at hl 1 rfl) ?_
  refine lawH_i (y := yL_prove) (ws := wsH_prove) (mc := 970) (ms := 8915) (As := [.ref h1, .ref o]) (rest := []) ⟨hx, hb, hml, hown, hts⟩ (H_prove l hst dC dI kX kT kM kV kC kN kJ kL kF kO kQ kG kw h1 (((T.1 : Nat) : Int), T.2) Fc Fs w o kR g hC H.size) (vx_cwSW 2 hts gl_H_prove rfl rfl rfl (by decide +kernel) ⟨Nat.le_of_ble_eq_true rfl, Nat.le_of_ble_eq_true rfl⟩) (hKR.app hKC) hE hNc hA hP hD hS rfl hl.1 (lv_room (Nat.le_of_ble_eq_true rfl)) dL_law_722 ⟨show Fc + 1000 * j + 125 + 970 ≤ 327717 by omega, show Fs + 9000 * j + 181434 + 8915 ≤ 8118330 by omega⟩ (fun r1 u H1 locs1 hp hP hD hS hz1 hs1 => ?_)
  obtain ⟨hC1, hL1⟩ := hp
  refine W.tight (cells2 := u.2.1 + 1000 * (j + 1) + 125) (slots2 := u.2.2.1 + 9000 * (j + 1) + 181434) (by omega) (by omega) ?_
  have hbd1 := hC1.bd
  refine lv_istore hx hb dL_law_725 hl (by decide) rfl (fun ls (hl : lv_has ls _ ([(5, .int r1), (4, .int (nI (6 * j))), (3, .ref o), (2, .ref h2), (1, .ref h1), (0, .ref b)])) => ?_)
  refine lv_aload_n hx hb dL_law_727 rfl (lv_at hl 3 rfl) ?_
  refine lawR_i (y := yX12_prove) (ws := wsRX12_prove) (mc := 0) (ms := 0) (As := []) (rest := []) ⟨hx, hb, hml, hown, hts⟩ (R_prove l dC dI kv h2 T th v hR H1.size) (cwV 0 hts gl_R_prove rfl rfl rfl (by decide +kernel) ⟨Nat.le_of_ble_eq_true rfl, Nat.le_of_ble_eq_true rfl⟩) hR.recv hKV hT9 hA hP hD hS rfl hl.1 (lv_room (Nat.le_of_ble_eq_true rfl)) dL_law_728 ⟨show u.2.1 + 1000 * (j + 1) + 125 + 0 ≤ 327717 by omega, show u.2.2.1 + 9000 * (j + 1) + 181434 + 0 ≤ 8118330 by omega⟩ (fun r2 u2 H2 locs2 hp2 hP hD hS => ?_)
  obtain ⟨hR2, hT2⟩ := hp2
  refine lv_istore hx hb dL_law_731 hl (by decide) rfl (fun ls (hl : lv_has ls _ ([(6, .int r2), (5, .int r1), (4, .int (nI (6 * j))), (3, .ref o), (2, .ref h2), (1, .ref h1), (0, .ref b)])) => ?_)
  refine lv_goto (tgt := 1507) hx hb dL_law_733 (by decide) ?_
  refine W.known (fun z1 z2 => ?_)
  have hTT : (((((u2.1.1 : Nat) : Int), u2.1.2) : LT) = u.1 ∧ u2.1.1 ≤ 20 * (j + 1)) := ⟨by rw [hL1, hT2] <;> rfl, by rw [hT2]; first | omega | (dsimp only; omega)⟩
  exact hgo H2 locs2 ls _ _ ⟨u2.1, u2.2.1, u.2.1, u.2.2.1, u.2.2.2.1, u2.2.2, u.2.2.2.2, by rw [hTT.1]; exact hC1, hR2, hTT.2, hP, hD, hS, by omega, by omega⟩ (lv_sub hl [2, 3, 4, 5, 6] rfl)
set_option maxHeartbeats 4000000 in
set_option maxRecDepth 100000 in
/-- the law's case 16: need -/
theorem lc_16 {p : Program} {e : Env} {s : State} {m : MethodId} {below : List Frame} {meth : Method} {c : Code} (l : Launch) (hst : l.stackTraces = false) {b Ls : Nat} {xs : Nat → Int32} (hLs : Ls ≤ 384) (C0 : lw_At p s m meth c b Ls xs) {A : Nat → Prop} (dC : Nat → ClassId) (dI : Nat → Nat → Nat) (kX : Nat → ClassId) (kT : Nat → ClassId) (kM : Nat → ClassId) (kV : Nat → ClassId) (kC : Nat → ClassId) (kN : Nat → ClassId) (kJ : Nat → ClassId) (kL : Nat → ClassId) (kF : Nat → ClassId) (kO : Nat → ClassId) (kQ : Nat → ClassId) (kG : Nat → ClassId) (kw : ClassId) (kv : Nat → ClassId) (kR : ClassId) (E0 : LwC dC dI kX kT kM kV kC kN kJ kL kF kO kQ kG kw kv kR A s) {h1 h2 o j : Nat} (hj : 6 * j + 6 ≤ Ls) {H : Heap} {locs : List Loc} {ls : Array Slot} {cells slots : Nat} (hI : LwI dC dI kX kT kM kV kC kN kJ kL kF kO kQ kG kw kv kR A s h1 h2 o j H locs) (hl : lv_has ls 7 [(4, .int (nI (6 * j))), (3, .ref o), (2, .ref h2), (1, .ref h1), (0, .ref b)])
    (hgo : ∀ (H : Heap) (locs : List Loc) (ls : Array Slot) (cells slots : Nat), LwI dC dI kX kT kM kV kC kN kJ kL kF kO kQ kG kw kv kR A s h1 h2 o (j + 1) H locs → lv_has ls 7 [(4, .int (nI (6 * j))), (3, .ref o), (2, .ref h2), (1, .ref h1), (0, .ref b)] → W p l e room_1 s m #[Value.ref b] below meth c H locs cells slots (lw_Z below #[Value.ref b] s) (F0 m 1507 ls [])) : W p l e room_1 s m #[Value.ref b] below meth c H locs cells slots (lw_Z below #[Value.ref b] s) (F0 m 736 ls []) := by
  obtain ⟨hx, hb, hr, hml, hown, hts, hX, hbl, hlocks, hgv⟩ := id C0
  have hb : c.code = cL_law := hb
  have hown : s.vm.findClass RL = some m.cls := hown
  obtain ⟨hA, hA2, hE, hT9, hNc, hKC, hKV, hKR⟩ := E0
  have hbA : ¬ A b := fun h => absurd (hA2 b h) (Nat.not_le.mpr hbl)
  obtain ⟨T, th, Fc, Fs, w, v, g, hC, hR, hT, hP, hD, hS, hz, hn⟩ := hI
  have hbd := hC.bd
  refine W.tight (cells2 := Fc + 1000 * j + 125) (slots2 := Fs + 9000 * j + 181434) hz hn ?_
  refine lv_aload_n hx hb dL_law_736 rfl (lv_at hl 3 rfl) ?_
  refine lw_arg hx hb hX hbl hbA hS (lv_at hl 4 rfl) (lv_at hl 0 rfl) 1 (by omega) hLs (by decide) dL_law_737 dL_law_738 dL_law_740 dL_law_741 dL_law_742 ?_
  refine lw_arg hx hb hX hbl hbA hS (lv_at hl 4 rfl) (lv_at hl 0 rfl) 2 (by omega) hLs (by decide) dL_law_743 dL_law_744 dL_law_746 dL_law_747 dL_law_748 ?_
  refine lawC_i (y := yX11_need) (ws := wsU_need) (mc := 0) (ms := 0) (As := [.int (xs (6 * j + 1)), .int (xs (6 * j + 2))]) (rest := []) ⟨hx, hb, hml, hown, hts⟩ (U_need l hst dC dI kX kT kM kV kC kN kJ kL kF kO kQ kG kw h1 (((T.1 : Nat) : Int), T.2) Fc Fs w (xs (6 * j + 1)) (xs (6 * j + 2)) hC H.size) (cwV 2 hts gl_C_need rfl rfl rfl (by decide +kernel) ⟨Nat.le_of_ble_eq_true rfl, Nat.le_of_ble_eq_true rfl⟩) hC.recv hKC hE hA hP hD hS rfl hl.1 (lv_room (Nat.le_of_ble_eq_true rfl)) dL_law_749 ⟨show Fc + 1000 * j + 125 + 0 ≤ 327717 by omega, show Fs + 9000 * j + 181434 + 0 ≤ 8118330 by omega⟩ (fun r1 u H1 locs1 hp hP hD hS hz1 hs1 => ?_)
  obtain ⟨hC1, hL1⟩ := hp
  refine W.tight (cells2 := u.2.1 + 1000 * (j + 1) + 125) (slots2 := u.2.2.1 + 9000 * (j + 1) + 181434) (by omega) (by omega) ?_
  have hbd1 := hC1.bd
  refine lv_pop hx hb dL_law_752 rfl ?_
  refine lv_aload_n hx hb dL_law_753 rfl (lv_at hl 2 rfl) ?_
  refine lw_arg hx hb hX hbl hbA hS (lv_at hl 4 rfl) (lv_at hl 0 rfl) 1 (by omega) hLs (by decide) dL_law_754 dL_law_755 dL_law_757 dL_law_758 dL_law_759 ?_
  refine lw_arg hx hb hX hbl hbA hS (lv_at hl 4 rfl) (lv_at hl 0 rfl) 2 (by omega) hLs (by decide) dL_law_760 dL_law_761 dL_law_763 dL_law_764 dL_law_765 ?_
  refine lawR_i (y := yX12_need) (ws := wsRX12_need) (mc := 0) (ms := 0) (As := [.int (xs (6 * j + 1)), .int (xs (6 * j + 2))]) (rest := []) ⟨hx, hb, hml, hown, hts⟩ (R_need l dC dI kv h2 T th v (xs (6 * j + 1)) (xs (6 * j + 2)) hR H1.size) (cwV 2 hts gl_R_need rfl rfl rfl (by decide +kernel) ⟨Nat.le_of_ble_eq_true rfl, Nat.le_of_ble_eq_true rfl⟩) hR.recv hKV hT9 hA hP hD hS rfl hl.1 (lv_room (Nat.le_of_ble_eq_true rfl)) dL_law_766 ⟨show u.2.1 + 1000 * (j + 1) + 125 + 0 ≤ 327717 by omega, show u.2.2.1 + 9000 * (j + 1) + 181434 + 0 ≤ 8118330 by omega⟩ (fun r2 u2 H2 locs2 hp2 hP hD hS => ?_)
  obtain ⟨hR2, hT2⟩ := hp2
  refine lv_pop hx hb dL_law_769 rfl ?_
  refine lv_goto (tgt := 1507) hx hb dL_law_770 (by decide) ?_
  refine W.known (fun z1 z2 => ?_)
  have hTT : (((((u2.1.1 : Nat) : Int), u2.1.2) : LT) = u.1 ∧ u2.1.1 ≤ 20 * (j + 1)) := ⟨by rw [hL1, hT2] <;> rfl, by rw [hT2]; first | omega | (dsimp only; omega)⟩
  exact hgo H2 locs2 ls _ _ ⟨u2.1, u2.2.1, u.2.1, u.2.2.1, u.2.2.2, u2.2.2, g, by rw [hTT.1]; exact hC1, hR2, hTT.2, hP, hD, hS, by omega, by omega⟩ (lv_sub hl [0, 1, 2, 3, 4] rfl)
set_option maxHeartbeats 4000000 in
set_option maxRecDepth 100000 in
/-- the law's case 17: multiplier -/
theorem lc_17 {p : Program} {e : Env} {s : State} {m : MethodId} {below : List Frame} {meth : Method} {c : Code} (l : Launch) (hst : l.stackTraces = false) {b Ls : Nat} {xs : Nat → Int32} (hLs : Ls ≤ 384) (C0 : lw_At p s m meth c b Ls xs) {A : Nat → Prop} (dC : Nat → ClassId) (dI : Nat → Nat → Nat) (kX : Nat → ClassId) (kT : Nat → ClassId) (kM : Nat → ClassId) (kV : Nat → ClassId) (kC : Nat → ClassId) (kN : Nat → ClassId) (kJ : Nat → ClassId) (kL : Nat → ClassId) (kF : Nat → ClassId) (kO : Nat → ClassId) (kQ : Nat → ClassId) (kG : Nat → ClassId) (kw : ClassId) (kv : Nat → ClassId) (kR : ClassId) (E0 : LwC dC dI kX kT kM kV kC kN kJ kL kF kO kQ kG kw kv kR A s) {h1 h2 o j : Nat} (hj : 6 * j + 6 ≤ Ls) {H : Heap} {locs : List Loc} {ls : Array Slot} {cells slots : Nat} (hI : LwI dC dI kX kT kM kV kC kN kJ kL kF kO kQ kG kw kv kR A s h1 h2 o j H locs) (hl : lv_has ls 7 [(4, .int (nI (6 * j))), (3, .ref o), (2, .ref h2), (1, .ref h1), (0, .ref b)])
    (hgo : ∀ (H : Heap) (locs : List Loc) (ls : Array Slot) (cells slots : Nat), LwI dC dI kX kT kM kV kC kN kJ kL kF kO kQ kG kw kv kR A s h1 h2 o (j + 1) H locs → lv_has ls 7 [(4, .int (nI (6 * j))), (3, .ref o), (2, .ref h2), (1, .ref h1), (0, .ref b)] → W p l e room_1 s m #[Value.ref b] below meth c H locs cells slots (lw_Z below #[Value.ref b] s) (F0 m 1507 ls [])) : W p l e room_1 s m #[Value.ref b] below meth c H locs cells slots (lw_Z below #[Value.ref b] s) (F0 m 773 ls []) := by
  obtain ⟨hx, hb, hr, hml, hown, hts, hX, hbl, hlocks, hgv⟩ := id C0
  have hb : c.code = cL_law := hb
  have hown : s.vm.findClass RL = some m.cls := hown
  obtain ⟨hA, hA2, hE, hT9, hNc, hKC, hKV, hKR⟩ := E0
  have hbA : ¬ A b := fun h => absurd (hA2 b h) (Nat.not_le.mpr hbl)
  obtain ⟨T, th, Fc, Fs, w, v, g, hC, hR, hT, hP, hD, hS, hz, hn⟩ := hI
  have hbd := hC.bd
  refine W.tight (cells2 := Fc + 1000 * j + 125) (slots2 := Fs + 9000 * j + 181434) hz hn ?_
  refine lv_aload_n hx hb dL_law_773 rfl (lv_at hl 3 rfl) ?_
  refine lw_arg hx hb hX hbl hbA hS (lv_at hl 4 rfl) (lv_at hl 0 rfl) 1 (by omega) hLs (by decide) dL_law_774 dL_law_775 dL_law_777 dL_law_778 dL_law_779 ?_
  refine lv_aload_n hx hb dL_law_780 rfl (lv_at hl 1 rfl) ?_
  refine lawH_i (y := yL_multiplier) (ws := wsH_multiplier) (mc := 7501) (ms := 540000) (As := [.ref h1, .int (xs (6 * j + 1)), .ref o]) (rest := []) ⟨hx, hb, hml, hown, hts⟩ (H_multiplier l hst dC dI kX kT kM kV kC kN kJ kL kF kO kQ kG kw h1 (((T.1 : Nat) : Int), T.2) Fc Fs w (xs (6 * j + 1)) o kR g hC H.size) (vx_cwSW 3 hts gl_H_multiplier rfl rfl rfl (by decide +kernel) ⟨Nat.le_of_ble_eq_true rfl, Nat.le_of_ble_eq_true rfl⟩) (hKR.app hKC) hE hNc hA hP hD hS rfl hl.1 (lv_room (Nat.le_of_ble_eq_true rfl)) dL_law_781 ⟨show Fc + 1000 * j + 125 + 7501 ≤ 327717 by omega, show Fs + 9000 * j + 181434 + 540000 ≤ 8118330 by omega⟩ (fun r1 u H1 locs1 hp hP hD hS hz1 hs1 => ?_)
  obtain ⟨hC1, hL1⟩ := hp
  refine W.tight (cells2 := u.2.1 + 1000 * (j + 1) + 125) (slots2 := u.2.2.1 + 9000 * (j + 1) + 181434) (by omega) (by omega) ?_
  have hbd1 := hC1.bd
  refine lv_istore hx hb dL_law_784 hl (by decide) rfl (fun ls (hl : lv_has ls _ ([(5, .int r1), (4, .int (nI (6 * j))), (3, .ref o), (2, .ref h2), (1, .ref h1), (0, .ref b)])) => ?_)
  refine lv_aload_n hx hb dL_law_786 rfl (lv_at hl 3 rfl) ?_
  refine lw_arg hx hb hX hbl hbA hS (lv_at hl 5 rfl) (lv_at hl 1 rfl) 1 (by omega) hLs (by decide) dL_law_787 dL_law_788 dL_law_790 dL_law_791 dL_law_792 ?_
  refine lawR_i (y := yX12_multiplier) (ws := wsRX12_multiplier) (mc := 0) (ms := 0) (As := [.int (xs (6 * j + 1))]) (rest := []) ⟨hx, hb, hml, hown, hts⟩ (R_multiplier l dC dI kv h2 T th v (xs (6 * j + 1)) hR H1.size) (cwV 1 hts gl_R_multiplier rfl rfl rfl (by decide +kernel) ⟨Nat.le_of_ble_eq_true rfl, Nat.le_of_ble_eq_true rfl⟩) hR.recv hKV hT9 hA hP hD hS rfl hl.1 (lv_room (Nat.le_of_ble_eq_true rfl)) dL_law_793 ⟨show u.2.1 + 1000 * (j + 1) + 125 + 0 ≤ 327717 by omega, show u.2.2.1 + 9000 * (j + 1) + 181434 + 0 ≤ 8118330 by omega⟩ (fun r2 u2 H2 locs2 hp2 hP hD hS => ?_)
  obtain ⟨hR2, hT2⟩ := hp2
  refine lv_istore hx hb dL_law_796 hl (by decide) rfl (fun ls (hl : lv_has ls _ ([(6, .int r2), (5, .int r1), (4, .int (nI (6 * j))), (3, .ref o), (2, .ref h2), (1, .ref h1), (0, .ref b)])) => ?_)
  refine lv_goto (tgt := 1507) hx hb dL_law_798 (by decide) ?_
  refine W.known (fun z1 z2 => ?_)
  have hTT : (((((u2.1.1 : Nat) : Int), u2.1.2) : LT) = u.1 ∧ u2.1.1 ≤ 20 * (j + 1)) := ⟨by rw [hL1, hT2] <;> rfl, by rw [hT2]; first | omega | (dsimp only; omega)⟩
  exact hgo H2 locs2 ls _ _ ⟨u2.1, u2.2.1, u.2.1, u.2.2.1, u.2.2.2.1, u2.2.2, u.2.2.2.2, by rw [hTT.1]; exact hC1, hR2, hTT.2, hP, hD, hS, by omega, by omega⟩ (lv_sub hl [2, 3, 4, 5, 6] rfl)
set_option maxHeartbeats 4000000 in
set_option maxRecDepth 100000 in
/-- the law's case 18: letter -/
theorem lc_18 {p : Program} {e : Env} {s : State} {m : MethodId} {below : List Frame} {meth : Method} {c : Code} (l : Launch) (hst : l.stackTraces = false) {b Ls : Nat} {xs : Nat → Int32} (hLs : Ls ≤ 384) (C0 : lw_At p s m meth c b Ls xs) {A : Nat → Prop} (dC : Nat → ClassId) (dI : Nat → Nat → Nat) (kX : Nat → ClassId) (kT : Nat → ClassId) (kM : Nat → ClassId) (kV : Nat → ClassId) (kC : Nat → ClassId) (kN : Nat → ClassId) (kJ : Nat → ClassId) (kL : Nat → ClassId) (kF : Nat → ClassId) (kO : Nat → ClassId) (kQ : Nat → ClassId) (kG : Nat → ClassId) (kw : ClassId) (kv : Nat → ClassId) (kR : ClassId) (E0 : LwC dC dI kX kT kM kV kC kN kJ kL kF kO kQ kG kw kv kR A s) {h1 h2 o j : Nat} (hj : 6 * j + 6 ≤ Ls) {H : Heap} {locs : List Loc} {ls : Array Slot} {cells slots : Nat} (hI : LwI dC dI kX kT kM kV kC kN kJ kL kF kO kQ kG kw kv kR A s h1 h2 o j H locs) (hl : lv_has ls 7 [(4, .int (nI (6 * j))), (3, .ref o), (2, .ref h2), (1, .ref h1), (0, .ref b)])
    (hgo : ∀ (H : Heap) (locs : List Loc) (ls : Array Slot) (cells slots : Nat), LwI dC dI kX kT kM kV kC kN kJ kL kF kO kQ kG kw kv kR A s h1 h2 o (j + 1) H locs → lv_has ls 7 [(4, .int (nI (6 * j))), (3, .ref o), (2, .ref h2), (1, .ref h1), (0, .ref b)] → W p l e room_1 s m #[Value.ref b] below meth c H locs cells slots (lw_Z below #[Value.ref b] s) (F0 m 1507 ls [])) : W p l e room_1 s m #[Value.ref b] below meth c H locs cells slots (lw_Z below #[Value.ref b] s) (F0 m 801 ls []) := by
  obtain ⟨hx, hb, hr, hml, hown, hts, hX, hbl, hlocks, hgv⟩ := id C0
  have hb : c.code = cL_law := hb
  have hown : s.vm.findClass RL = some m.cls := hown
  obtain ⟨hA, hA2, hE, hT9, hNc, hKC, hKV, hKR⟩ := E0
  have hbA : ¬ A b := fun h => absurd (hA2 b h) (Nat.not_le.mpr hbl)
  obtain ⟨T, th, Fc, Fs, w, v, g, hC, hR, hT, hP, hD, hS, hz, hn⟩ := hI
  have hbd := hC.bd
  refine W.tight (cells2 := Fc + 1000 * j + 125) (slots2 := Fs + 9000 * j + 181434) hz hn ?_
  refine lv_aload_n hx hb dL_law_801 rfl (lv_at hl 3 rfl) ?_
  refine lw_arg hx hb hX hbl hbA hS (lv_at hl 4 rfl) (lv_at hl 0 rfl) 1 (by omega) hLs (by decide) dL_law_802 dL_law_803 dL_law_805 dL_law_806 dL_law_807 ?_
  refine lawC_i (y := yX11_letter) (ws := wsU_letter) (mc := 0) (ms := 0) (As := [.int (xs (6 * j + 1))]) (rest := []) ⟨hx, hb, hml, hown, hts⟩ (U_letter l hst dC dI kX kT kM kV kC kN kJ kL kF kO kQ kG kw h1 (((T.1 : Nat) : Int), T.2) Fc Fs w (xs (6 * j + 1)) hC H.size) (cwV 1 hts gl_C_letter rfl rfl rfl (by decide +kernel) ⟨Nat.le_of_ble_eq_true rfl, Nat.le_of_ble_eq_true rfl⟩) hC.recv hKC hE hA hP hD hS rfl hl.1 (lv_room (Nat.le_of_ble_eq_true rfl)) dL_law_808 ⟨show Fc + 1000 * j + 125 + 0 ≤ 327717 by omega, show Fs + 9000 * j + 181434 + 0 ≤ 8118330 by omega⟩ (fun r1 u H1 locs1 hp hP hD hS hz1 hs1 => ?_)
  obtain ⟨hC1, hL1⟩ := hp
  refine W.tight (cells2 := u.2.1 + 1000 * (j + 1) + 125) (slots2 := u.2.2.1 + 9000 * (j + 1) + 181434) (by omega) (by omega) ?_
  have hbd1 := hC1.bd
  refine lv_pop hx hb dL_law_811 rfl ?_
  refine lv_aload_n hx hb dL_law_812 rfl (lv_at hl 2 rfl) ?_
  refine lw_arg hx hb hX hbl hbA hS (lv_at hl 4 rfl) (lv_at hl 0 rfl) 1 (by omega) hLs (by decide) dL_law_813 dL_law_814 dL_law_816 dL_law_817 dL_law_818 ?_
  refine lawR_i (y := yX12_letter) (ws := wsRX12_letter) (mc := 0) (ms := 0) (As := [.int (xs (6 * j + 1))]) (rest := []) ⟨hx, hb, hml, hown, hts⟩ (R_letter l dC dI kv h2 T th v (xs (6 * j + 1)) hR H1.size) (cwV 1 hts gl_R_letter rfl rfl rfl (by decide +kernel) ⟨Nat.le_of_ble_eq_true rfl, Nat.le_of_ble_eq_true rfl⟩) hR.recv hKV hT9 hA hP hD hS rfl hl.1 (lv_room (Nat.le_of_ble_eq_true rfl)) dL_law_819 ⟨show u.2.1 + 1000 * (j + 1) + 125 + 0 ≤ 327717 by omega, show u.2.2.1 + 9000 * (j + 1) + 181434 + 0 ≤ 8118330 by omega⟩ (fun r2 u2 H2 locs2 hp2 hP hD hS => ?_)
  obtain ⟨hR2, hT2⟩ := hp2
  refine lv_pop hx hb dL_law_822 rfl ?_
  refine lv_goto (tgt := 1507) hx hb dL_law_823 (by decide) ?_
  refine W.known (fun z1 z2 => ?_)
  have hTT : (((((u2.1.1 : Nat) : Int), u2.1.2) : LT) = u.1 ∧ u2.1.1 ≤ 20 * (j + 1)) := ⟨by rw [hL1, hT2] <;> rfl, by rw [hT2]; first | omega | (dsimp only; omega)⟩
  exact hgo H2 locs2 ls _ _ ⟨u2.1, u2.2.1, u.2.1, u.2.2.1, u.2.2.2, u2.2.2, g, by rw [hTT.1]; exact hC1, hR2, hTT.2, hP, hD, hS, by omega, by omega⟩ (lv_sub hl [0, 1, 2, 3, 4] rfl)
set_option maxHeartbeats 4000000 in
set_option maxRecDepth 100000 in
/-- the law's case 19: about -/
theorem lc_19 {p : Program} {e : Env} {s : State} {m : MethodId} {below : List Frame} {meth : Method} {c : Code} (l : Launch) (hst : l.stackTraces = false) {b Ls : Nat} {xs : Nat → Int32} (hLs : Ls ≤ 384) (C0 : lw_At p s m meth c b Ls xs) {A : Nat → Prop} (dC : Nat → ClassId) (dI : Nat → Nat → Nat) (kX : Nat → ClassId) (kT : Nat → ClassId) (kM : Nat → ClassId) (kV : Nat → ClassId) (kC : Nat → ClassId) (kN : Nat → ClassId) (kJ : Nat → ClassId) (kL : Nat → ClassId) (kF : Nat → ClassId) (kO : Nat → ClassId) (kQ : Nat → ClassId) (kG : Nat → ClassId) (kw : ClassId) (kv : Nat → ClassId) (kR : ClassId) (E0 : LwC dC dI kX kT kM kV kC kN kJ kL kF kO kQ kG kw kv kR A s) {h1 h2 o j : Nat} (hj : 6 * j + 6 ≤ Ls) {H : Heap} {locs : List Loc} {ls : Array Slot} {cells slots : Nat} (hI : LwI dC dI kX kT kM kV kC kN kJ kL kF kO kQ kG kw kv kR A s h1 h2 o j H locs) (hl : lv_has ls 7 [(4, .int (nI (6 * j))), (3, .ref o), (2, .ref h2), (1, .ref h1), (0, .ref b)])
    (hgo : ∀ (H : Heap) (locs : List Loc) (ls : Array Slot) (cells slots : Nat), LwI dC dI kX kT kM kV kC kN kJ kL kF kO kQ kG kw kv kR A s h1 h2 o (j + 1) H locs → lv_has ls 7 [(4, .int (nI (6 * j))), (3, .ref o), (2, .ref h2), (1, .ref h1), (0, .ref b)] → W p l e room_1 s m #[Value.ref b] below meth c H locs cells slots (lw_Z below #[Value.ref b] s) (F0 m 1507 ls [])) : W p l e room_1 s m #[Value.ref b] below meth c H locs cells slots (lw_Z below #[Value.ref b] s) (F0 m 826 ls []) := by
  obtain ⟨hx, hb, hr, hml, hown, hts, hX, hbl, hlocks, hgv⟩ := id C0
  have hb : c.code = cL_law := hb
  have hown : s.vm.findClass RL = some m.cls := hown
  obtain ⟨hA, hA2, hE, hT9, hNc, hKC, hKV, hKR⟩ := E0
  have hbA : ¬ A b := fun h => absurd (hA2 b h) (Nat.not_le.mpr hbl)
  obtain ⟨T, th, Fc, Fs, w, v, g, hC, hR, hT, hP, hD, hS, hz, hn⟩ := hI
  have hbd := hC.bd
  refine W.tight (cells2 := Fc + 1000 * j + 125) (slots2 := Fs + 9000 * j + 181434) hz hn ?_
  refine lv_aload_n hx hb dL_law_826 rfl (lv_at hl 3 rfl) ?_
  refine lw_arg hx hb hX hbl hbA hS (lv_at hl 4 rfl) (lv_at hl 0 rfl) 1 (by omega) hLs (by decide) dL_law_827 dL_law_828 dL_law_830 dL_law_831 dL_law_832 ?_
  refine lawC_i (y := yX11_about) (ws := wsU_about) (mc := 0) (ms := 0) (As := [.int (xs (6 * j + 1))]) (rest := []) ⟨hx, hb, hml, hown, hts⟩ (U_about l hst dC dI kX kT kM kV kC kN kJ kL kF kO kQ kG kw h1 (((T.1 : Nat) : Int), T.2) Fc Fs w (xs (6 * j + 1)) hC H.size) (cwV 1 hts gl_C_about rfl rfl rfl (by decide +kernel) ⟨Nat.le_of_ble_eq_true rfl, Nat.le_of_ble_eq_true rfl⟩) hC.recv hKC hE hA hP hD hS rfl hl.1 (lv_room (Nat.le_of_ble_eq_true rfl)) dL_law_833 ⟨show Fc + 1000 * j + 125 + 0 ≤ 327717 by omega, show Fs + 9000 * j + 181434 + 0 ≤ 8118330 by omega⟩ (fun r1 u H1 locs1 hp hP hD hS hz1 hs1 => ?_)
  obtain ⟨hC1, hL1⟩ := hp
  refine W.tight (cells2 := u.2.1 + 1000 * (j + 1) + 125) (slots2 := u.2.2.1 + 9000 * (j + 1) + 181434) (by omega) (by omega) ?_
  have hbd1 := hC1.bd
  refine lv_pop hx hb dL_law_836 rfl ?_
  refine lv_aload_n hx hb dL_law_837 rfl (lv_at hl 2 rfl) ?_
  refine lw_arg hx hb hX hbl hbA hS (lv_at hl 4 rfl) (lv_at hl 0 rfl) 1 (by omega) hLs (by decide) dL_law_838 dL_law_839 dL_law_841 dL_law_842 dL_law_843 ?_
  refine lawR_i (y := yX12_about) (ws := wsRX12_about) (mc := 0) (ms := 0) (As := [.int (xs (6 * j + 1))]) (rest := []) ⟨hx, hb, hml, hown, hts⟩ (R_about l dC dI kv h2 T th v (xs (6 * j + 1)) hR H1.size) (cwV 1 hts gl_R_about rfl rfl rfl (by decide +kernel) ⟨Nat.le_of_ble_eq_true rfl, Nat.le_of_ble_eq_true rfl⟩) hR.recv hKV hT9 hA hP hD hS rfl hl.1 (lv_room (Nat.le_of_ble_eq_true rfl)) dL_law_844 ⟨show u.2.1 + 1000 * (j + 1) + 125 + 0 ≤ 327717 by omega, show u.2.2.1 + 9000 * (j + 1) + 181434 + 0 ≤ 8118330 by omega⟩ (fun r2 u2 H2 locs2 hp2 hP hD hS => ?_)
  obtain ⟨hR2, hT2⟩ := hp2
  refine lv_pop hx hb dL_law_847 rfl ?_
  refine lv_goto (tgt := 1507) hx hb dL_law_848 (by decide) ?_
  refine W.known (fun z1 z2 => ?_)
  have hTT : (((((u2.1.1 : Nat) : Int), u2.1.2) : LT) = u.1 ∧ u2.1.1 ≤ 20 * (j + 1)) := ⟨by rw [hL1, hT2] <;> rfl, by rw [hT2]; first | omega | (dsimp only; omega)⟩
  exact hgo H2 locs2 ls _ _ ⟨u2.1, u2.2.1, u.2.1, u.2.2.1, u.2.2.2, u2.2.2, g, by rw [hTT.1]; exact hC1, hR2, hTT.2, hP, hD, hS, by omega, by omega⟩ (lv_sub hl [0, 1, 2, 3, 4] rfl)
set_option maxHeartbeats 4000000 in
set_option maxRecDepth 100000 in
/-- the law's case 20: holder -/
theorem lc_20 {p : Program} {e : Env} {s : State} {m : MethodId} {below : List Frame} {meth : Method} {c : Code} (l : Launch) (hst : l.stackTraces = false) {b Ls : Nat} {xs : Nat → Int32} (hLs : Ls ≤ 384) (C0 : lw_At p s m meth c b Ls xs) {A : Nat → Prop} (dC : Nat → ClassId) (dI : Nat → Nat → Nat) (kX : Nat → ClassId) (kT : Nat → ClassId) (kM : Nat → ClassId) (kV : Nat → ClassId) (kC : Nat → ClassId) (kN : Nat → ClassId) (kJ : Nat → ClassId) (kL : Nat → ClassId) (kF : Nat → ClassId) (kO : Nat → ClassId) (kQ : Nat → ClassId) (kG : Nat → ClassId) (kw : ClassId) (kv : Nat → ClassId) (kR : ClassId) (E0 : LwC dC dI kX kT kM kV kC kN kJ kL kF kO kQ kG kw kv kR A s) {h1 h2 o j : Nat} (hj : 6 * j + 6 ≤ Ls) {H : Heap} {locs : List Loc} {ls : Array Slot} {cells slots : Nat} (hI : LwI dC dI kX kT kM kV kC kN kJ kL kF kO kQ kG kw kv kR A s h1 h2 o j H locs) (hl : lv_has ls 7 [(4, .int (nI (6 * j))), (3, .ref o), (2, .ref h2), (1, .ref h1), (0, .ref b)])
    (hgo : ∀ (H : Heap) (locs : List Loc) (ls : Array Slot) (cells slots : Nat), LwI dC dI kX kT kM kV kC kN kJ kL kF kO kQ kG kw kv kR A s h1 h2 o (j + 1) H locs → lv_has ls 7 [(4, .int (nI (6 * j))), (3, .ref o), (2, .ref h2), (1, .ref h1), (0, .ref b)] → W p l e room_1 s m #[Value.ref b] below meth c H locs cells slots (lw_Z below #[Value.ref b] s) (F0 m 1507 ls [])) : W p l e room_1 s m #[Value.ref b] below meth c H locs cells slots (lw_Z below #[Value.ref b] s) (F0 m 851 ls []) := by
  obtain ⟨hx, hb, hr, hml, hown, hts, hX, hbl, hlocks, hgv⟩ := id C0
  have hb : c.code = cL_law := hb
  have hown : s.vm.findClass RL = some m.cls := hown
  obtain ⟨hA, hA2, hE, hT9, hNc, hKC, hKV, hKR⟩ := E0
  have hbA : ¬ A b := fun h => absurd (hA2 b h) (Nat.not_le.mpr hbl)
  obtain ⟨T, th, Fc, Fs, w, v, g, hC, hR, hT, hP, hD, hS, hz, hn⟩ := hI
  have hbd := hC.bd
  refine W.tight (cells2 := Fc + 1000 * j + 125) (slots2 := Fs + 9000 * j + 181434) hz hn ?_
  refine lv_aload_n hx hb dL_law_851 rfl (lv_at hl 3 rfl) ?_
  refine lw_arg hx hb hX hbl hbA hS (lv_at hl 4 rfl) (lv_at hl 0 rfl) 1 (by omega) hLs (by decide) dL_law_852 dL_law_853 dL_law_855 dL_law_856 dL_law_857 ?_
  refine lv_aload_n hx hb dL_law_858 rfl (lv_at hl 1 rfl) ?_
  refine lawH_i (y := yL_holder) (ws := wsH_holder) (mc := 16) (ms := 1414) (As := [.ref h1, .int (xs (6 * j + 1)), .ref o]) (rest := []) ⟨hx, hb, hml, hown, hts⟩ (H_holder l hst dC dI kX kT kM kV kC kN kJ kL kF kO kQ kG kw h1 (((T.1 : Nat) : Int), T.2) Fc Fs w (xs (6 * j + 1)) o kR g hC H.size) (vx_cwSW 3 hts gl_H_holder rfl rfl rfl (by decide +kernel) ⟨Nat.le_of_ble_eq_true rfl, Nat.le_of_ble_eq_true rfl⟩) (hKR.app hKC) hE hNc hA hP hD hS rfl hl.1 (lv_room (Nat.le_of_ble_eq_true rfl)) dL_law_859 ⟨show Fc + 1000 * j + 125 + 16 ≤ 327717 by omega, show Fs + 9000 * j + 181434 + 1414 ≤ 8118330 by omega⟩ (fun r1 u H1 locs1 hp hP hD hS hz1 hs1 => ?_)
  obtain ⟨hC1, hL1⟩ := hp
  refine W.tight (cells2 := u.2.1 + 1000 * (j + 1) + 125) (slots2 := u.2.2.1 + 9000 * (j + 1) + 181434) (by omega) (by omega) ?_
  have hbd1 := hC1.bd
  refine lv_istore hx hb dL_law_862 hl (by decide) rfl (fun ls (hl : lv_has ls _ ([(5, .int r1), (4, .int (nI (6 * j))), (3, .ref o), (2, .ref h2), (1, .ref h1), (0, .ref b)])) => ?_)
  refine lv_aload_n hx hb dL_law_864 rfl (lv_at hl 3 rfl) ?_
  refine lw_arg hx hb hX hbl hbA hS (lv_at hl 5 rfl) (lv_at hl 1 rfl) 1 (by omega) hLs (by decide) dL_law_865 dL_law_866 dL_law_868 dL_law_869 dL_law_870 ?_
  refine lawR_i (y := yX12_holder) (ws := wsRX12_holder) (mc := 0) (ms := 0) (As := [.int (xs (6 * j + 1))]) (rest := []) ⟨hx, hb, hml, hown, hts⟩ (R_holder l dC dI kv h2 T th v (xs (6 * j + 1)) hR H1.size) (cwV 1 hts gl_R_holder rfl rfl rfl (by decide +kernel) ⟨Nat.le_of_ble_eq_true rfl, Nat.le_of_ble_eq_true rfl⟩) hR.recv hKV hT9 hA hP hD hS rfl hl.1 (lv_room (Nat.le_of_ble_eq_true rfl)) dL_law_871 ⟨show u.2.1 + 1000 * (j + 1) + 125 + 0 ≤ 327717 by omega, show u.2.2.1 + 9000 * (j + 1) + 181434 + 0 ≤ 8118330 by omega⟩ (fun r2 u2 H2 locs2 hp2 hP hD hS => ?_)
  obtain ⟨hR2, hT2⟩ := hp2
  refine lv_istore hx hb dL_law_874 hl (by decide) rfl (fun ls (hl : lv_has ls _ ([(6, .int r2), (5, .int r1), (4, .int (nI (6 * j))), (3, .ref o), (2, .ref h2), (1, .ref h1), (0, .ref b)])) => ?_)
  refine lv_goto (tgt := 1507) hx hb dL_law_876 (by decide) ?_
  refine W.known (fun z1 z2 => ?_)
  have hTT : (((((u2.1.1 : Nat) : Int), u2.1.2) : LT) = u.1 ∧ u2.1.1 ≤ 20 * (j + 1)) := by
    rcases lw3 (n := T.2.2.2.1) (m := T.2.2.2.1) rfl hL1 hT2 with ⟨⟨a1, _⟩, a2, _⟩ | ⟨⟨a1, _⟩, a2, _⟩ | ⟨⟨a1, _⟩, a2, _⟩
    · exact ⟨by rw [a1, a2] <;> rfl, by rw [a2]; first | omega | (dsimp only; omega)⟩
    · exact ⟨by rw [a1, a2] <;> rfl, by rw [a2]; first | omega | (dsimp only; omega)⟩
    · exact ⟨by rw [a1, a2] <;> rfl, by rw [a2]; first | omega | (dsimp only; omega)⟩
  exact hgo H2 locs2 ls _ _ ⟨u2.1, u2.2.1, u.2.1, u.2.2.1, u.2.2.2.1, u2.2.2, u.2.2.2.2, by rw [hTT.1]; exact hC1, hR2, hTT.2, hP, hD, hS, by omega, by omega⟩ (lv_sub hl [2, 3, 4, 5, 6] rfl)
set_option maxHeartbeats 4000000 in
set_option maxRecDepth 100000 in
/-- the law's case 21: rule -/
theorem lc_21 {p : Program} {e : Env} {s : State} {m : MethodId} {below : List Frame} {meth : Method} {c : Code} (l : Launch) (hst : l.stackTraces = false) {b Ls : Nat} {xs : Nat → Int32} (hLs : Ls ≤ 384) (C0 : lw_At p s m meth c b Ls xs) {A : Nat → Prop} (dC : Nat → ClassId) (dI : Nat → Nat → Nat) (kX : Nat → ClassId) (kT : Nat → ClassId) (kM : Nat → ClassId) (kV : Nat → ClassId) (kC : Nat → ClassId) (kN : Nat → ClassId) (kJ : Nat → ClassId) (kL : Nat → ClassId) (kF : Nat → ClassId) (kO : Nat → ClassId) (kQ : Nat → ClassId) (kG : Nat → ClassId) (kw : ClassId) (kv : Nat → ClassId) (kR : ClassId) (E0 : LwC dC dI kX kT kM kV kC kN kJ kL kF kO kQ kG kw kv kR A s) {h1 h2 o j : Nat} (hj : 6 * j + 6 ≤ Ls) {H : Heap} {locs : List Loc} {ls : Array Slot} {cells slots : Nat} (hI : LwI dC dI kX kT kM kV kC kN kJ kL kF kO kQ kG kw kv kR A s h1 h2 o j H locs) (hl : lv_has ls 7 [(4, .int (nI (6 * j))), (3, .ref o), (2, .ref h2), (1, .ref h1), (0, .ref b)])
    (hgo : ∀ (H : Heap) (locs : List Loc) (ls : Array Slot) (cells slots : Nat), LwI dC dI kX kT kM kV kC kN kJ kL kF kO kQ kG kw kv kR A s h1 h2 o (j + 1) H locs → lv_has ls 7 [(4, .int (nI (6 * j))), (3, .ref o), (2, .ref h2), (1, .ref h1), (0, .ref b)] → W p l e room_1 s m #[Value.ref b] below meth c H locs cells slots (lw_Z below #[Value.ref b] s) (F0 m 1507 ls [])) : W p l e room_1 s m #[Value.ref b] below meth c H locs cells slots (lw_Z below #[Value.ref b] s) (F0 m 879 ls []) := by
  obtain ⟨hx, hb, hr, hml, hown, hts, hX, hbl, hlocks, hgv⟩ := id C0
  have hb : c.code = cL_law := hb
  have hown : s.vm.findClass RL = some m.cls := hown
  obtain ⟨hA, hA2, hE, hT9, hNc, hKC, hKV, hKR⟩ := E0
  have hbA : ¬ A b := fun h => absurd (hA2 b h) (Nat.not_le.mpr hbl)
  obtain ⟨T, th, Fc, Fs, w, v, g, hC, hR, hT, hP, hD, hS, hz, hn⟩ := hI
  have hbd := hC.bd
  refine W.tight (cells2 := Fc + 1000 * j + 125) (slots2 := Fs + 9000 * j + 181434) hz hn ?_
  refine lv_aload_n hx hb dL_law_879 rfl (lv_at hl 3 rfl) ?_
  refine lw_arg hx hb hX hbl hbA hS (lv_at hl 4 rfl) (lv_at hl 0 rfl) 1 (by omega) hLs (by decide) dL_law_880 dL_law_881 dL_law_883 dL_law_884 dL_law_885 ?_
  refine lw_arg hx hb hX hbl hbA hS (lv_at hl 4 rfl) (lv_at hl 0 rfl) 2 (by omega) hLs (by decide) dL_law_886 dL_law_887 dL_law_889 dL_law_890 dL_law_891 ?_
  refine lw_arg hx hb hX hbl hbA hS (lv_at hl 4 rfl) (lv_at hl 0 rfl) 3 (by omega) hLs (by decide) dL_law_892 dL_law_893 dL_law_895 dL_law_896 dL_law_897 ?_
  refine lw_arg hx hb hX hbl hbA hS (lv_at hl 4 rfl) (lv_at hl 0 rfl) 4 (by omega) hLs (by decide) dL_law_898 dL_law_899 dL_law_901 dL_law_902 dL_law_903 ?_
  refine lv_aload_n hx hb dL_law_904 rfl (lv_at hl 1 rfl) ?_
  refine lawH_i (y := yL_rule) (ws := wsH_rule) (mc := 16) (ms := 1414) (As := [.ref h1, .int (xs (6 * j + 1)), .int (xs (6 * j + 2)), .int (xs (6 * j + 3)), .int (xs (6 * j + 4)), .ref o]) (rest := []) ⟨hx, hb, hml, hown, hts⟩ (H_rule l hst dC dI kX kT kM kV kC kN kJ kL kF kO kQ kG kw h1 (((T.1 : Nat) : Int), T.2) Fc Fs w (xs (6 * j + 1)) (xs (6 * j + 2)) (xs (6 * j + 3)) (xs (6 * j + 4)) o kR g hC H.size) (vx_cwSW 6 hts gl_H_rule rfl rfl rfl (by decide +kernel) ⟨Nat.le_of_ble_eq_true rfl, Nat.le_of_ble_eq_true rfl⟩) (hKR.app hKC) hE hNc hA hP hD hS rfl hl.1 (lv_room (Nat.le_of_ble_eq_true rfl)) dL_law_905 ⟨show Fc + 1000 * j + 125 + 16 ≤ 327717 by omega, show Fs + 9000 * j + 181434 + 1414 ≤ 8118330 by omega⟩ (fun r1 u H1 locs1 hp hP hD hS hz1 hs1 => ?_)
  obtain ⟨hC1, hL1⟩ := hp
  refine W.tight (cells2 := u.2.1 + 1000 * (j + 1) + 125) (slots2 := u.2.2.1 + 9000 * (j + 1) + 181434) (by omega) (by omega) ?_
  have hbd1 := hC1.bd
  refine lv_istore hx hb dL_law_908 hl (by decide) rfl (fun ls (hl : lv_has ls _ ([(5, .int r1), (4, .int (nI (6 * j))), (3, .ref o), (2, .ref h2), (1, .ref h1), (0, .ref b)])) => ?_)
  refine lv_aload_n hx hb dL_law_910 rfl (lv_at hl 3 rfl) ?_
  refine lw_arg hx hb hX hbl hbA hS (lv_at hl 5 rfl) (lv_at hl 1 rfl) 1 (by omega) hLs (by decide) dL_law_911 dL_law_912 dL_law_914 dL_law_915 dL_law_916 ?_
  refine lw_arg hx hb hX hbl hbA hS (lv_at hl 5 rfl) (lv_at hl 1 rfl) 2 (by omega) hLs (by decide) dL_law_917 dL_law_918 dL_law_920 dL_law_921 dL_law_922 ?_
  refine lw_arg hx hb hX hbl hbA hS (lv_at hl 5 rfl) (lv_at hl 1 rfl) 3 (by omega) hLs (by decide) dL_law_923 dL_law_924 dL_law_926 dL_law_927 dL_law_928 ?_
  refine lw_arg hx hb hX hbl hbA hS (lv_at hl 5 rfl) (lv_at hl 1 rfl) 4 (by omega) hLs (by decide) dL_law_929 dL_law_930 dL_law_932 dL_law_933 dL_law_934 ?_
  refine lawR_i (y := yX12_rule) (ws := wsRX12_rule) (mc := 0) (ms := 0) (As := [.int (xs (6 * j + 1)), .int (xs (6 * j + 2)), .int (xs (6 * j + 3)), .int (xs (6 * j + 4))]) (rest := []) ⟨hx, hb, hml, hown, hts⟩ (R_rule l dC dI kv h2 T th v (xs (6 * j + 1)) (xs (6 * j + 2)) (xs (6 * j + 3)) (xs (6 * j + 4)) hR H1.size) (cwV 4 hts gl_R_rule rfl rfl rfl (by decide +kernel) ⟨Nat.le_of_ble_eq_true rfl, Nat.le_of_ble_eq_true rfl⟩) hR.recv hKV hT9 hA hP hD hS rfl hl.1 (lv_room (Nat.le_of_ble_eq_true rfl)) dL_law_935 ⟨show u.2.1 + 1000 * (j + 1) + 125 + 0 ≤ 327717 by omega, show u.2.2.1 + 9000 * (j + 1) + 181434 + 0 ≤ 8118330 by omega⟩ (fun r2 u2 H2 locs2 hp2 hP hD hS => ?_)
  obtain ⟨hR2, hT2⟩ := hp2
  refine lv_istore hx hb dL_law_938 hl (by decide) rfl (fun ls (hl : lv_has ls _ ([(6, .int r2), (5, .int r1), (4, .int (nI (6 * j))), (3, .ref o), (2, .ref h2), (1, .ref h1), (0, .ref b)])) => ?_)
  refine lv_goto (tgt := 1507) hx hb dL_law_940 (by decide) ?_
  refine W.known (fun z1 z2 => ?_)
  have hTT : (((((u2.1.1 : Nat) : Int), u2.1.2) : LT) = u.1 ∧ u2.1.1 ≤ 20 * (j + 1)) := by
    obtain ⟨hI1, e1, hL1⟩ := hL1
    obtain ⟨hI2, e2, hT2⟩ := hT2
    obtain rfl : hI1 = hI2 := Int32.toInt_inj.mp (e1.trans e2.symm)
    rcases lw3 (n := T.2.2.2.2.1) (m := T.2.2.2.2.1) rfl hL1 hT2 with ⟨⟨a1, _⟩, a2, _⟩ | ⟨⟨a1, _⟩, a2, _⟩ | ⟨⟨a1, _⟩, a2, _⟩
    · exact ⟨by rw [a1, a2] <;> rfl, by rw [a2]; first | omega | (dsimp only; omega)⟩
    · exact ⟨by rw [a1, a2] <;> rfl, by rw [a2]; first | omega | (dsimp only; omega)⟩
    · exact ⟨by rw [a1, a2] <;> rfl, by rw [a2]; first | omega | (dsimp only; omega)⟩
  exact hgo H2 locs2 ls _ _ ⟨u2.1, u2.2.1, u.2.1, u.2.2.1, u.2.2.2.1, u2.2.2, u.2.2.2.2, by rw [hTT.1]; exact hC1, hR2, hTT.2, hP, hD, hS, by omega, by omega⟩ (lv_sub hl [2, 3, 4, 5, 6] rfl)
set_option maxHeartbeats 4000000 in
set_option maxRecDepth 100000 in
/-- the law's case 22: pair -/
theorem lc_22 {p : Program} {e : Env} {s : State} {m : MethodId} {below : List Frame} {meth : Method} {c : Code} (l : Launch) (hst : l.stackTraces = false) {b Ls : Nat} {xs : Nat → Int32} (hLs : Ls ≤ 384) (C0 : lw_At p s m meth c b Ls xs) {A : Nat → Prop} (dC : Nat → ClassId) (dI : Nat → Nat → Nat) (kX : Nat → ClassId) (kT : Nat → ClassId) (kM : Nat → ClassId) (kV : Nat → ClassId) (kC : Nat → ClassId) (kN : Nat → ClassId) (kJ : Nat → ClassId) (kL : Nat → ClassId) (kF : Nat → ClassId) (kO : Nat → ClassId) (kQ : Nat → ClassId) (kG : Nat → ClassId) (kw : ClassId) (kv : Nat → ClassId) (kR : ClassId) (E0 : LwC dC dI kX kT kM kV kC kN kJ kL kF kO kQ kG kw kv kR A s) {h1 h2 o j : Nat} (hj : 6 * j + 6 ≤ Ls) {H : Heap} {locs : List Loc} {ls : Array Slot} {cells slots : Nat} (hI : LwI dC dI kX kT kM kV kC kN kJ kL kF kO kQ kG kw kv kR A s h1 h2 o j H locs) (hl : lv_has ls 7 [(4, .int (nI (6 * j))), (3, .ref o), (2, .ref h2), (1, .ref h1), (0, .ref b)])
    (hgo : ∀ (H : Heap) (locs : List Loc) (ls : Array Slot) (cells slots : Nat), LwI dC dI kX kT kM kV kC kN kJ kL kF kO kQ kG kw kv kR A s h1 h2 o (j + 1) H locs → lv_has ls 7 [(4, .int (nI (6 * j))), (3, .ref o), (2, .ref h2), (1, .ref h1), (0, .ref b)] → W p l e room_1 s m #[Value.ref b] below meth c H locs cells slots (lw_Z below #[Value.ref b] s) (F0 m 1507 ls [])) : W p l e room_1 s m #[Value.ref b] below meth c H locs cells slots (lw_Z below #[Value.ref b] s) (F0 m 943 ls []) := by
  obtain ⟨hx, hb, hr, hml, hown, hts, hX, hbl, hlocks, hgv⟩ := id C0
  have hb : c.code = cL_law := hb
  have hown : s.vm.findClass RL = some m.cls := hown
  obtain ⟨hA, hA2, hE, hT9, hNc, hKC, hKV, hKR⟩ := E0
  have hbA : ¬ A b := fun h => absurd (hA2 b h) (Nat.not_le.mpr hbl)
  obtain ⟨T, th, Fc, Fs, w, v, g, hC, hR, hT, hP, hD, hS, hz, hn⟩ := hI
  have hbd := hC.bd
  refine W.tight (cells2 := Fc + 1000 * j + 125) (slots2 := Fs + 9000 * j + 181434) hz hn ?_
  refine lv_aload_n hx hb dL_law_943 rfl (lv_at hl 3 rfl) ?_
  refine lw_arg hx hb hX hbl hbA hS (lv_at hl 4 rfl) (lv_at hl 0 rfl) 1 (by omega) hLs (by decide) dL_law_944 dL_law_945 dL_law_947 dL_law_948 dL_law_949 ?_
  refine lw_arg hx hb hX hbl hbA hS (lv_at hl 4 rfl) (lv_at hl 0 rfl) 2 (by omega) hLs (by decide) dL_law_950 dL_law_951 dL_law_953 dL_law_954 dL_law_955 ?_
  refine lawC_i (y := yX11_pair) (ws := wsU_pair) (mc := 15) (ms := 1408) (As := [.int (xs (6 * j + 1)), .int (xs (6 * j + 2))]) (rest := []) ⟨hx, hb, hml, hown, hts⟩ (U_pair l hst dC dI kX kT kM kV kC kN kJ kL kF kO kQ kG kw h1 (((T.1 : Nat) : Int), T.2) Fc Fs w (xs (6 * j + 1)) (xs (6 * j + 2)) hC H.size) (cwV 2 hts gl_C_pair rfl rfl rfl (by decide +kernel) ⟨Nat.le_of_ble_eq_true rfl, Nat.le_of_ble_eq_true rfl⟩) hC.recv hKC hE hA hP hD hS rfl hl.1 (lv_room (Nat.le_of_ble_eq_true rfl)) dL_law_956 ⟨show Fc + 1000 * j + 125 + 15 ≤ 327717 by omega, show Fs + 9000 * j + 181434 + 1408 ≤ 8118330 by omega⟩ (fun r1 u H1 locs1 hp hP hD hS hz1 hs1 => ?_)
  obtain ⟨hC1, hL1⟩ := hp
  refine W.tight (cells2 := u.2.1 + 1000 * (j + 1) + 125) (slots2 := u.2.2.1 + 9000 * (j + 1) + 181434) (by omega) (by omega) ?_
  have hbd1 := hC1.bd
  refine lv_pop hx hb dL_law_959 rfl ?_
  refine lv_aload_n hx hb dL_law_960 rfl (lv_at hl 2 rfl) ?_
  refine lw_arg hx hb hX hbl hbA hS (lv_at hl 4 rfl) (lv_at hl 0 rfl) 1 (by omega) hLs (by decide) dL_law_961 dL_law_962 dL_law_964 dL_law_965 dL_law_966 ?_
  refine lw_arg hx hb hX hbl hbA hS (lv_at hl 4 rfl) (lv_at hl 0 rfl) 2 (by omega) hLs (by decide) dL_law_967 dL_law_968 dL_law_970 dL_law_971 dL_law_972 ?_
  refine lawR_i (y := yX12_pair) (ws := wsRX12_pair) (mc := 0) (ms := 0) (As := [.int (xs (6 * j + 1)), .int (xs (6 * j + 2))]) (rest := []) ⟨hx, hb, hml, hown, hts⟩ (R_pair l dC dI kv h2 T th v (xs (6 * j + 1)) (xs (6 * j + 2)) hR H1.size) (cwV 2 hts gl_R_pair rfl rfl rfl (by decide +kernel) ⟨Nat.le_of_ble_eq_true rfl, Nat.le_of_ble_eq_true rfl⟩) hR.recv hKV hT9 hA hP hD hS rfl hl.1 (lv_room (Nat.le_of_ble_eq_true rfl)) dL_law_973 ⟨show u.2.1 + 1000 * (j + 1) + 125 + 0 ≤ 327717 by omega, show u.2.2.1 + 9000 * (j + 1) + 181434 + 0 ≤ 8118330 by omega⟩ (fun r2 u2 H2 locs2 hp2 hP hD hS => ?_)
  obtain ⟨hR2, hT2⟩ := hp2
  refine lv_pop hx hb dL_law_976 rfl ?_
  refine lv_goto (tgt := 1507) hx hb dL_law_977 (by decide) ?_
  refine W.known (fun z1 z2 => ?_)
  have hL0 := hL1.1
  have hT0 := hT2.1
  have hTT : (((((u2.1.1 : Nat) : Int), u2.1.2) : LT) = u.1 ∧ u2.1.1 ≤ 20 * (j + 1)) := ⟨by rw [hL0, hT0] <;> rfl, by rw [hT0]; first | omega | (dsimp only; omega)⟩
  exact hgo H2 locs2 ls _ _ ⟨u2.1, u2.2.1, u.2.1, u.2.2.1, u.2.2.2, u2.2.2, g, by rw [hTT.1]; exact hC1, hR2, hTT.2, hP, hD, hS, by omega, by omega⟩ (lv_sub hl [0, 1, 2, 3, 4] rfl)
set_option maxHeartbeats 4000000 in
set_option maxRecDepth 100000 in
/-- the law's case 23: left -/
theorem lc_23 {p : Program} {e : Env} {s : State} {m : MethodId} {below : List Frame} {meth : Method} {c : Code} (l : Launch) (hst : l.stackTraces = false) {b Ls : Nat} {xs : Nat → Int32} (hLs : Ls ≤ 384) (C0 : lw_At p s m meth c b Ls xs) {A : Nat → Prop} (dC : Nat → ClassId) (dI : Nat → Nat → Nat) (kX : Nat → ClassId) (kT : Nat → ClassId) (kM : Nat → ClassId) (kV : Nat → ClassId) (kC : Nat → ClassId) (kN : Nat → ClassId) (kJ : Nat → ClassId) (kL : Nat → ClassId) (kF : Nat → ClassId) (kO : Nat → ClassId) (kQ : Nat → ClassId) (kG : Nat → ClassId) (kw : ClassId) (kv : Nat → ClassId) (kR : ClassId) (E0 : LwC dC dI kX kT kM kV kC kN kJ kL kF kO kQ kG kw kv kR A s) {h1 h2 o j : Nat} (hj : 6 * j + 6 ≤ Ls) {H : Heap} {locs : List Loc} {ls : Array Slot} {cells slots : Nat} (hI : LwI dC dI kX kT kM kV kC kN kJ kL kF kO kQ kG kw kv kR A s h1 h2 o j H locs) (hl : lv_has ls 7 [(4, .int (nI (6 * j))), (3, .ref o), (2, .ref h2), (1, .ref h1), (0, .ref b)])
    (hgo : ∀ (H : Heap) (locs : List Loc) (ls : Array Slot) (cells slots : Nat), LwI dC dI kX kT kM kV kC kN kJ kL kF kO kQ kG kw kv kR A s h1 h2 o (j + 1) H locs → lv_has ls 7 [(4, .int (nI (6 * j))), (3, .ref o), (2, .ref h2), (1, .ref h1), (0, .ref b)] → W p l e room_1 s m #[Value.ref b] below meth c H locs cells slots (lw_Z below #[Value.ref b] s) (F0 m 1507 ls [])) : W p l e room_1 s m #[Value.ref b] below meth c H locs cells slots (lw_Z below #[Value.ref b] s) (F0 m 980 ls []) := by
  obtain ⟨hx, hb, hr, hml, hown, hts, hX, hbl, hlocks, hgv⟩ := id C0
  have hb : c.code = cL_law := hb
  have hown : s.vm.findClass RL = some m.cls := hown
  obtain ⟨hA, hA2, hE, hT9, hNc, hKC, hKV, hKR⟩ := E0
  have hbA : ¬ A b := fun h => absurd (hA2 b h) (Nat.not_le.mpr hbl)
  obtain ⟨T, th, Fc, Fs, w, v, g, hC, hR, hT, hP, hD, hS, hz, hn⟩ := hI
  have hbd := hC.bd
  refine W.tight (cells2 := Fc + 1000 * j + 125) (slots2 := Fs + 9000 * j + 181434) hz hn ?_
  refine lv_aload_n hx hb dL_law_980 rfl (lv_at hl 3 rfl) ?_
  refine lw_arg hx hb hX hbl hbA hS (lv_at hl 4 rfl) (lv_at hl 0 rfl) 1 (by omega) hLs (by decide) dL_law_981 dL_law_982 dL_law_984 dL_law_985 dL_law_986 ?_
  refine lawC_i (y := yX11_left) (ws := wsU_left) (mc := 0) (ms := 0) (As := [.int (xs (6 * j + 1))]) (rest := []) ⟨hx, hb, hml, hown, hts⟩ (U_left l hst dC dI kX kT kM kV kC kN kJ kL kF kO kQ kG kw h1 (((T.1 : Nat) : Int), T.2) Fc Fs w (xs (6 * j + 1)) hC H.size) (cwV 1 hts gl_C_left rfl rfl rfl (by decide +kernel) ⟨Nat.le_of_ble_eq_true rfl, Nat.le_of_ble_eq_true rfl⟩) hC.recv hKC hE hA hP hD hS rfl hl.1 (lv_room (Nat.le_of_ble_eq_true rfl)) dL_law_987 ⟨show Fc + 1000 * j + 125 + 0 ≤ 327717 by omega, show Fs + 9000 * j + 181434 + 0 ≤ 8118330 by omega⟩ (fun r1 u H1 locs1 hp hP hD hS hz1 hs1 => ?_)
  obtain ⟨hC1, hL1⟩ := hp
  refine W.tight (cells2 := u.2.1 + 1000 * (j + 1) + 125) (slots2 := u.2.2.1 + 9000 * (j + 1) + 181434) (by omega) (by omega) ?_
  have hbd1 := hC1.bd
  refine lv_pop hx hb dL_law_990 rfl ?_
  refine lv_aload_n hx hb dL_law_991 rfl (lv_at hl 2 rfl) ?_
  refine lw_arg hx hb hX hbl hbA hS (lv_at hl 4 rfl) (lv_at hl 0 rfl) 1 (by omega) hLs (by decide) dL_law_992 dL_law_993 dL_law_995 dL_law_996 dL_law_997 ?_
  refine lawR_i (y := yX12_left) (ws := wsRX12_left) (mc := 0) (ms := 0) (As := [.int (xs (6 * j + 1))]) (rest := []) ⟨hx, hb, hml, hown, hts⟩ (R_left l dC dI kv h2 T th v (xs (6 * j + 1)) hR H1.size) (cwV 1 hts gl_R_left rfl rfl rfl (by decide +kernel) ⟨Nat.le_of_ble_eq_true rfl, Nat.le_of_ble_eq_true rfl⟩) hR.recv hKV hT9 hA hP hD hS rfl hl.1 (lv_room (Nat.le_of_ble_eq_true rfl)) dL_law_998 ⟨show u.2.1 + 1000 * (j + 1) + 125 + 0 ≤ 327717 by omega, show u.2.2.1 + 9000 * (j + 1) + 181434 + 0 ≤ 8118330 by omega⟩ (fun r2 u2 H2 locs2 hp2 hP hD hS => ?_)
  obtain ⟨hR2, hT2⟩ := hp2
  refine lv_pop hx hb dL_law_1001 rfl ?_
  refine lv_goto (tgt := 1507) hx hb dL_law_1002 (by decide) ?_
  refine W.known (fun z1 z2 => ?_)
  have hL0 := hL1.1
  have hT0 := hT2.1
  have hTT : (((((u2.1.1 : Nat) : Int), u2.1.2) : LT) = u.1 ∧ u2.1.1 ≤ 20 * (j + 1)) := ⟨by rw [hL0, hT0] <;> rfl, by rw [hT0]; first | omega | (dsimp only; omega)⟩
  exact hgo H2 locs2 ls _ _ ⟨u2.1, u2.2.1, u.2.1, u.2.2.1, u.2.2.2, u2.2.2, g, by rw [hTT.1]; exact hC1, hR2, hTT.2, hP, hD, hS, by omega, by omega⟩ (lv_sub hl [0, 1, 2, 3, 4] rfl)
set_option maxHeartbeats 4000000 in
set_option maxRecDepth 100000 in
/-- the law's case 24: listing -/
theorem lc_24 {p : Program} {e : Env} {s : State} {m : MethodId} {below : List Frame} {meth : Method} {c : Code} (l : Launch) (hst : l.stackTraces = false) {b Ls : Nat} {xs : Nat → Int32} (hLs : Ls ≤ 384) (C0 : lw_At p s m meth c b Ls xs) {A : Nat → Prop} (dC : Nat → ClassId) (dI : Nat → Nat → Nat) (kX : Nat → ClassId) (kT : Nat → ClassId) (kM : Nat → ClassId) (kV : Nat → ClassId) (kC : Nat → ClassId) (kN : Nat → ClassId) (kJ : Nat → ClassId) (kL : Nat → ClassId) (kF : Nat → ClassId) (kO : Nat → ClassId) (kQ : Nat → ClassId) (kG : Nat → ClassId) (kw : ClassId) (kv : Nat → ClassId) (kR : ClassId) (E0 : LwC dC dI kX kT kM kV kC kN kJ kL kF kO kQ kG kw kv kR A s) {h1 h2 o j : Nat} (hj : 6 * j + 6 ≤ Ls) {H : Heap} {locs : List Loc} {ls : Array Slot} {cells slots : Nat} (hI : LwI dC dI kX kT kM kV kC kN kJ kL kF kO kQ kG kw kv kR A s h1 h2 o j H locs) (hl : lv_has ls 7 [(4, .int (nI (6 * j))), (3, .ref o), (2, .ref h2), (1, .ref h1), (0, .ref b)])
    (hgo : ∀ (H : Heap) (locs : List Loc) (ls : Array Slot) (cells slots : Nat), LwI dC dI kX kT kM kV kC kN kJ kL kF kO kQ kG kw kv kR A s h1 h2 o (j + 1) H locs → lv_has ls 7 [(4, .int (nI (6 * j))), (3, .ref o), (2, .ref h2), (1, .ref h1), (0, .ref b)] → W p l e room_1 s m #[Value.ref b] below meth c H locs cells slots (lw_Z below #[Value.ref b] s) (F0 m 1507 ls [])) : W p l e room_1 s m #[Value.ref b] below meth c H locs cells slots (lw_Z below #[Value.ref b] s) (F0 m 1005 ls []) := by
  obtain ⟨hx, hb, hr, hml, hown, hts, hX, hbl, hlocks, hgv⟩ := id C0
  have hb : c.code = cL_law := hb
  have hown : s.vm.findClass RL = some m.cls := hown
  obtain ⟨hA, hA2, hE, hT9, hNc, hKC, hKV, hKR⟩ := E0
  have hbA : ¬ A b := fun h => absurd (hA2 b h) (Nat.not_le.mpr hbl)
  obtain ⟨T, th, Fc, Fs, w, v, g, hC, hR, hT, hP, hD, hS, hz, hn⟩ := hI
  have hbd := hC.bd
  refine W.tight (cells2 := Fc + 1000 * j + 125) (slots2 := Fs + 9000 * j + 181434) hz hn ?_
  refine lv_aload_n hx hb dL_law_1005 rfl (lv_at hl 3 rfl) ?_
  refine lawC_i (y := yX11_listing) (ws := wsU_listing) (mc := 20001) (ms := 180000) (As := []) (rest := []) ⟨hx, hb, hml, hown, hts⟩ (U_listing l hst dC dI kX kT kM kV kC kN kJ kL kF kO kQ kG kw h1 (((T.1 : Nat) : Int), T.2) Fc Fs w hC H.size) (cwV 0 hts gl_C_listing rfl rfl rfl (by decide +kernel) ⟨Nat.le_of_ble_eq_true rfl, Nat.le_of_ble_eq_true rfl⟩) hC.recv hKC hE hA hP hD hS rfl hl.1 (lv_room (Nat.le_of_ble_eq_true rfl)) dL_law_1006 ⟨show Fc + 1000 * j + 125 + 20001 ≤ 327717 by omega, show Fs + 9000 * j + 181434 + 180000 ≤ 8118330 by omega⟩ (fun r1 u H1 locs1 hp hP hD hS hz1 hs1 => ?_)
  obtain ⟨hC1, hL1⟩ := hp
  refine W.tight (cells2 := u.2.1 + 1000 * (j + 1) + 125) (slots2 := u.2.2.1 + 9000 * (j + 1) + 181434) (by omega) (by omega) ?_
  have hbd1 := hC1.bd
  refine lv_pop hx hb dL_law_1009 rfl ?_
  refine lv_aload_n hx hb dL_law_1010 rfl (lv_at hl 2 rfl) ?_
  refine lawR_i (y := yX12_listing) (ws := wsRX12_listing) (mc := 0) (ms := 0) (As := []) (rest := []) ⟨hx, hb, hml, hown, hts⟩ (R_listing l dC dI kv h2 T th v hR H1.size) (cwV 0 hts gl_R_listing rfl rfl rfl (by decide +kernel) ⟨Nat.le_of_ble_eq_true rfl, Nat.le_of_ble_eq_true rfl⟩) hR.recv hKV hT9 hA hP hD hS rfl hl.1 (lv_room (Nat.le_of_ble_eq_true rfl)) dL_law_1011 ⟨show u.2.1 + 1000 * (j + 1) + 125 + 0 ≤ 327717 by omega, show u.2.2.1 + 9000 * (j + 1) + 181434 + 0 ≤ 8118330 by omega⟩ (fun r2 u2 H2 locs2 hp2 hP hD hS => ?_)
  obtain ⟨hR2, hT2⟩ := hp2
  refine lv_pop hx hb dL_law_1014 rfl ?_
  refine lv_goto (tgt := 1507) hx hb dL_law_1015 (by decide) ?_
  refine W.known (fun z1 z2 => ?_)
  have hL0 := hL1.1
  have hT0 := hT2.1
  have hTT : (((((u2.1.1 : Nat) : Int), u2.1.2) : LT) = u.1 ∧ u2.1.1 ≤ 20 * (j + 1)) := ⟨by rw [hL0, hT0] <;> rfl, by rw [hT0]; first | omega | (dsimp only; omega)⟩
  exact hgo H2 locs2 ls _ _ ⟨u2.1, u2.2.1, u.2.1, u.2.2.1, u.2.2.2, u2.2.2, g, by rw [hTT.1]; exact hC1, hR2, hTT.2, hP, hD, hS, by omega, by omega⟩ (lv_sub hl [0, 1, 2, 3, 4] rfl)
set_option maxHeartbeats 4000000 in
set_option maxRecDepth 100000 in
/-- the law's case 25: listed -/
theorem lc_25 {p : Program} {e : Env} {s : State} {m : MethodId} {below : List Frame} {meth : Method} {c : Code} (l : Launch) (hst : l.stackTraces = false) {b Ls : Nat} {xs : Nat → Int32} (hLs : Ls ≤ 384) (C0 : lw_At p s m meth c b Ls xs) {A : Nat → Prop} (dC : Nat → ClassId) (dI : Nat → Nat → Nat) (kX : Nat → ClassId) (kT : Nat → ClassId) (kM : Nat → ClassId) (kV : Nat → ClassId) (kC : Nat → ClassId) (kN : Nat → ClassId) (kJ : Nat → ClassId) (kL : Nat → ClassId) (kF : Nat → ClassId) (kO : Nat → ClassId) (kQ : Nat → ClassId) (kG : Nat → ClassId) (kw : ClassId) (kv : Nat → ClassId) (kR : ClassId) (E0 : LwC dC dI kX kT kM kV kC kN kJ kL kF kO kQ kG kw kv kR A s) {h1 h2 o j : Nat} (hj : 6 * j + 6 ≤ Ls) {H : Heap} {locs : List Loc} {ls : Array Slot} {cells slots : Nat} (hI : LwI dC dI kX kT kM kV kC kN kJ kL kF kO kQ kG kw kv kR A s h1 h2 o j H locs) (hl : lv_has ls 7 [(4, .int (nI (6 * j))), (3, .ref o), (2, .ref h2), (1, .ref h1), (0, .ref b)])
    (hgo : ∀ (H : Heap) (locs : List Loc) (ls : Array Slot) (cells slots : Nat), LwI dC dI kX kT kM kV kC kN kJ kL kF kO kQ kG kw kv kR A s h1 h2 o (j + 1) H locs → lv_has ls 7 [(4, .int (nI (6 * j))), (3, .ref o), (2, .ref h2), (1, .ref h1), (0, .ref b)] → W p l e room_1 s m #[Value.ref b] below meth c H locs cells slots (lw_Z below #[Value.ref b] s) (F0 m 1507 ls [])) : W p l e room_1 s m #[Value.ref b] below meth c H locs cells slots (lw_Z below #[Value.ref b] s) (F0 m 1018 ls []) := by
  obtain ⟨hx, hb, hr, hml, hown, hts, hX, hbl, hlocks, hgv⟩ := id C0
  have hb : c.code = cL_law := hb
  have hown : s.vm.findClass RL = some m.cls := hown
  obtain ⟨hA, hA2, hE, hT9, hNc, hKC, hKV, hKR⟩ := E0
  have hbA : ¬ A b := fun h => absurd (hA2 b h) (Nat.not_le.mpr hbl)
  obtain ⟨T, th, Fc, Fs, w, v, g, hC, hR, hT, hP, hD, hS, hz, hn⟩ := hI
  have hbd := hC.bd
  refine W.tight (cells2 := Fc + 1000 * j + 125) (slots2 := Fs + 9000 * j + 181434) hz hn ?_
  refine lv_aload_n hx hb dL_law_1018 rfl (lv_at hl 3 rfl) ?_
  refine lw_arg hx hb hX hbl hbA hS (lv_at hl 4 rfl) (lv_at hl 0 rfl) 1 (by omega) hLs (by decide) dL_law_1019 dL_law_1020 dL_law_1022 dL_law_1023 dL_law_1024 ?_
  refine lw_arg hx hb hX hbl hbA hS (lv_at hl 4 rfl) (lv_at hl 0 rfl) 2 (by omega) hLs (by decide) dL_law_1025 dL_law_1026 dL_law_1028 dL_law_1029 dL_law_1030 ?_
  refine lawC_i (y := yX11_listed) (ws := wsU_listed) (mc := 25001) (ms := 220000) (As := [.int (xs (6 * j + 1)), .int (xs (6 * j + 2))]) (rest := []) ⟨hx, hb, hml, hown, hts⟩ (U_listed l hst dC dI kX kT kM kV kC kN kJ kL kF kO kQ kG kw h1 (((T.1 : Nat) : Int), T.2) Fc Fs w (xs (6 * j + 1)) (xs (6 * j + 2)) hC H.size) (cwV 2 hts gl_C_listed rfl rfl rfl (by decide +kernel) ⟨Nat.le_of_ble_eq_true rfl, Nat.le_of_ble_eq_true rfl⟩) hC.recv hKC hE hA hP hD hS rfl hl.1 (lv_room (Nat.le_of_ble_eq_true rfl)) dL_law_1031 ⟨show Fc + 1000 * j + 125 + 25001 ≤ 327717 by omega, show Fs + 9000 * j + 181434 + 220000 ≤ 8118330 by omega⟩ (fun r1 u H1 locs1 hp hP hD hS hz1 hs1 => ?_)
  obtain ⟨hC1, hL1⟩ := hp
  refine W.tight (cells2 := u.2.1 + 1000 * (j + 1) + 125) (slots2 := u.2.2.1 + 9000 * (j + 1) + 181434) (by omega) (by omega) ?_
  have hbd1 := hC1.bd
  refine lv_aload_n hx hb dL_law_1034 rfl (lv_at hl 2 rfl) ?_
  refine lw_arg hx hb hX hbl hbA hS (lv_at hl 4 rfl) (lv_at hl 0 rfl) 1 (by omega) hLs (by decide) dL_law_1035 dL_law_1036 dL_law_1038 dL_law_1039 dL_law_1040 ?_
  refine lw_arg hx hb hX hbl hbA hS (lv_at hl 4 rfl) (lv_at hl 0 rfl) 2 (by omega) hLs (by decide) dL_law_1041 dL_law_1042 dL_law_1044 dL_law_1045 dL_law_1046 ?_
  refine lawR_i (y := yX12_listed) (ws := wsRX12_listed) (mc := 0) (ms := 0) (As := [.int (xs (6 * j + 1)), .int (xs (6 * j + 2))]) (rest := [.int r1]) ⟨hx, hb, hml, hown, hts⟩ (R_listed l dC dI kv h2 T th v (xs (6 * j + 1)) (xs (6 * j + 2)) hR H1.size) (cwV 2 hts gl_R_listed rfl rfl rfl (by decide +kernel) ⟨Nat.le_of_ble_eq_true rfl, Nat.le_of_ble_eq_true rfl⟩) hR.recv hKV hT9 hA hP hD hS rfl hl.1 (lv_room (Nat.le_of_ble_eq_true rfl)) dL_law_1047 ⟨show u.2.1 + 1000 * (j + 1) + 125 + 0 ≤ 327717 by omega, show u.2.2.1 + 9000 * (j + 1) + 181434 + 0 ≤ 8118330 by omega⟩ (fun r2 u2 H2 locs2 hp2 hP hD hS => ?_)
  obtain ⟨hR2, hT2⟩ := hp2
  have hrr : r1 = r2 := vLd.eq hL1.2 hT2.2
  refine lv_icmp_eq (tgt := 1507) hx hb dL_law_1050 (by decide) (fun _ => ?_) (fun c9 => absurd hrr c9)
  refine W.known (fun z1 z2 => ?_)
  have hL0 := hL1.1
  have hT0 := hT2.1
  have hTT : (((((u2.1.1 : Nat) : Int), u2.1.2) : LT) = u.1 ∧ u2.1.1 ≤ 20 * (j + 1)) := ⟨by rw [hL0, hT0] <;> rfl, by rw [hT0]; first | omega | (dsimp only; omega)⟩
  exact hgo H2 locs2 ls _ _ ⟨u2.1, u2.2.1, u.2.1, u.2.2.1, u.2.2.2, u2.2.2, g, by rw [hTT.1]; exact hC1, hR2, hTT.2, hP, hD, hS, by omega, by omega⟩ (lv_sub hl [0, 1, 2, 3, 4] rfl)
end
section
set_option maxHeartbeats 4000000 in
set_option maxRecDepth 100000 in
/-- the law's case 26: reason -/
theorem lc_26 {p : Program} {e : Env} {s : State} {m : MethodId} {below : List Frame} {meth : Method} {c : Code} (l : Launch) (hst : l.stackTraces = false) {b Ls : Nat} {xs : Nat → Int32} (hLs : Ls ≤ 384) (C0 : lw_At p s m meth c b Ls xs) {A : Nat → Prop} (dC : Nat → ClassId) (dI : Nat → Nat → Nat) (kX : Nat → ClassId) (kT : Nat → ClassId) (kM : Nat → ClassId) (kV : Nat → ClassId) (kC : Nat → ClassId) (kN : Nat → ClassId) (kJ : Nat → ClassId) (kL : Nat → ClassId) (kF : Nat → ClassId) (kO : Nat → ClassId) (kQ : Nat → ClassId) (kG : Nat → ClassId) (kw : ClassId) (kv : Nat → ClassId) (kR : ClassId) (E0 : LwC dC dI kX kT kM kV kC kN kJ kL kF kO kQ kG kw kv kR A s) {h1 h2 o j : Nat} (hj : 6 * j + 6 ≤ Ls) {H : Heap} {locs : List Loc} {ls : Array Slot} {cells slots : Nat} (hI : LwI dC dI kX kT kM kV kC kN kJ kL kF kO kQ kG kw kv kR A s h1 h2 o j H locs) (hl : lv_has ls 7 [(4, .int (nI (6 * j))), (3, .ref o), (2, .ref h2), (1, .ref h1), (0, .ref b)])
    (hgo : ∀ (H : Heap) (locs : List Loc) (ls : Array Slot) (cells slots : Nat), LwI dC dI kX kT kM kV kC kN kJ kL kF kO kQ kG kw kv kR A s h1 h2 o (j + 1) H locs → lv_has ls 7 [(4, .int (nI (6 * j))), (3, .ref o), (2, .ref h2), (1, .ref h1), (0, .ref b)] → W p l e room_1 s m #[Value.ref b] below meth c H locs cells slots (lw_Z below #[Value.ref b] s) (F0 m 1507 ls [])) : W p l e room_1 s m #[Value.ref b] below meth c H locs cells slots (lw_Z below #[Value.ref b] s) (F0 m 1055 ls []) := by
  obtain ⟨hx, hb, hr, hml, hown, hts, hX, hbl, hlocks, hgv⟩ := id C0
  have hb : c.code = cL_law := hb
  have hown : s.vm.findClass RL = some m.cls := hown
  obtain ⟨hA, hA2, hE, hT9, hNc, hKC, hKV, hKR⟩ := E0
  have hbA : ¬ A b := fun h => absurd (hA2 b h) (Nat.not_le.mpr hbl)
  obtain ⟨T, th, Fc, Fs, w, v, g, hC, hR, hT, hP, hD, hS, hz, hn⟩ := hI
  have hbd := hC.bd
  refine W.tight (cells2 := Fc + 1000 * j + 125) (slots2 := Fs + 9000 * j + 181434) hz hn ?_
  refine lv_aload_n hx hb dL_law_1055 rfl (lv_at hl 3 rfl) ?_
  refine lw_arg hx hb hX hbl hbA hS (lv_at hl 4 rfl) (lv_at hl 0 rfl) 1 (by omega) hLs (by decide) dL_law_1056 dL_law_1057 dL_law_1059 dL_law_1060 dL_law_1061 ?_
  refine lw_arg hx hb hX hbl hbA hS (lv_at hl 4 rfl) (lv_at hl 0 rfl) 2 (by omega) hLs (by decide) dL_law_1062 dL_law_1063 dL_law_1065 dL_law_1066 dL_law_1067 ?_
  refine lawC_i (y := yX11_reason) (ws := wsU_reason) (mc := 0) (ms := 0) (As := [.int (xs (6 * j + 1)), .int (xs (6 * j + 2))]) (rest := []) ⟨hx, hb, hml, hown, hts⟩ (U_reason l hst dC dI kX kT kM kV kC kN kJ kL kF kO kQ kG kw h1 (((T.1 : Nat) : Int), T.2) Fc Fs w (xs (6 * j + 1)) (xs (6 * j + 2)) hC H.size) (cwV 2 hts gl_C_reason rfl rfl rfl (by decide +kernel) ⟨Nat.le_of_ble_eq_true rfl, Nat.le_of_ble_eq_true rfl⟩) hC.recv hKC hE hA hP hD hS rfl hl.1 (lv_room (Nat.le_of_ble_eq_true rfl)) dL_law_1068 ⟨show Fc + 1000 * j + 125 + 0 ≤ 327717 by omega, show Fs + 9000 * j + 181434 + 0 ≤ 8118330 by omega⟩ (fun r1 u H1 locs1 hp hP hD hS hz1 hs1 => ?_)
  obtain ⟨hC1, hL1⟩ := hp
  refine W.tight (cells2 := u.2.1 + 1000 * (j + 1) + 125) (slots2 := u.2.2.1 + 9000 * (j + 1) + 181434) (by omega) (by omega) ?_
  have hbd1 := hC1.bd
  refine lv_pop hx hb dL_law_1071 rfl ?_
  refine lv_aload_n hx hb dL_law_1072 rfl (lv_at hl 2 rfl) ?_
  refine lw_arg hx hb hX hbl hbA hS (lv_at hl 4 rfl) (lv_at hl 0 rfl) 1 (by omega) hLs (by decide) dL_law_1073 dL_law_1074 dL_law_1076 dL_law_1077 dL_law_1078 ?_
  refine lw_arg hx hb hX hbl hbA hS (lv_at hl 4 rfl) (lv_at hl 0 rfl) 2 (by omega) hLs (by decide) dL_law_1079 dL_law_1080 dL_law_1082 dL_law_1083 dL_law_1084 ?_
  refine lawR_i (y := yX12_reason) (ws := wsRX12_reason) (mc := 0) (ms := 0) (As := [.int (xs (6 * j + 1)), .int (xs (6 * j + 2))]) (rest := []) ⟨hx, hb, hml, hown, hts⟩ (R_reason l dC dI kv h2 T th v (xs (6 * j + 1)) (xs (6 * j + 2)) hR H1.size) (cwV 2 hts gl_R_reason rfl rfl rfl (by decide +kernel) ⟨Nat.le_of_ble_eq_true rfl, Nat.le_of_ble_eq_true rfl⟩) hR.recv hKV hT9 hA hP hD hS rfl hl.1 (lv_room (Nat.le_of_ble_eq_true rfl)) dL_law_1085 ⟨show u.2.1 + 1000 * (j + 1) + 125 + 0 ≤ 327717 by omega, show u.2.2.1 + 9000 * (j + 1) + 181434 + 0 ≤ 8118330 by omega⟩ (fun r2 u2 H2 locs2 hp2 hP hD hS => ?_)
  obtain ⟨hR2, hT2⟩ := hp2
  refine lv_pop hx hb dL_law_1088 rfl ?_
  refine lv_goto (tgt := 1507) hx hb dL_law_1089 (by decide) ?_
  refine W.known (fun z1 z2 => ?_)
  have hL0 := hL1.1
  have hT0 := hT2.1
  have hTT : (((((u2.1.1 : Nat) : Int), u2.1.2) : LT) = u.1 ∧ u2.1.1 ≤ 20 * (j + 1)) := ⟨by rw [hL0, hT0] <;> rfl, by rw [hT0]; first | omega | (dsimp only; omega)⟩
  exact hgo H2 locs2 ls _ _ ⟨u2.1, u2.2.1, u.2.1, u.2.2.1, u.2.2.2, u2.2.2, g, by rw [hTT.1]; exact hC1, hR2, hTT.2, hP, hD, hS, by omega, by omega⟩ (lv_sub hl [0, 1, 2, 3, 4] rfl)
set_option maxHeartbeats 4000000 in
set_option maxRecDepth 100000 in
/-- the law's case 27: clear -/
theorem lc_27 {p : Program} {e : Env} {s : State} {m : MethodId} {below : List Frame} {meth : Method} {c : Code} (l : Launch) (hst : l.stackTraces = false) {b Ls : Nat} {xs : Nat → Int32} (hLs : Ls ≤ 384) (C0 : lw_At p s m meth c b Ls xs) {A : Nat → Prop} (dC : Nat → ClassId) (dI : Nat → Nat → Nat) (kX : Nat → ClassId) (kT : Nat → ClassId) (kM : Nat → ClassId) (kV : Nat → ClassId) (kC : Nat → ClassId) (kN : Nat → ClassId) (kJ : Nat → ClassId) (kL : Nat → ClassId) (kF : Nat → ClassId) (kO : Nat → ClassId) (kQ : Nat → ClassId) (kG : Nat → ClassId) (kw : ClassId) (kv : Nat → ClassId) (kR : ClassId) (E0 : LwC dC dI kX kT kM kV kC kN kJ kL kF kO kQ kG kw kv kR A s) {h1 h2 o j : Nat} (hj : 6 * j + 6 ≤ Ls) {H : Heap} {locs : List Loc} {ls : Array Slot} {cells slots : Nat} (hI : LwI dC dI kX kT kM kV kC kN kJ kL kF kO kQ kG kw kv kR A s h1 h2 o j H locs) (hl : lv_has ls 7 [(4, .int (nI (6 * j))), (3, .ref o), (2, .ref h2), (1, .ref h1), (0, .ref b)])
    (hgo : ∀ (H : Heap) (locs : List Loc) (ls : Array Slot) (cells slots : Nat), LwI dC dI kX kT kM kV kC kN kJ kL kF kO kQ kG kw kv kR A s h1 h2 o (j + 1) H locs → lv_has ls 7 [(4, .int (nI (6 * j))), (3, .ref o), (2, .ref h2), (1, .ref h1), (0, .ref b)] → W p l e room_1 s m #[Value.ref b] below meth c H locs cells slots (lw_Z below #[Value.ref b] s) (F0 m 1507 ls [])) : W p l e room_1 s m #[Value.ref b] below meth c H locs cells slots (lw_Z below #[Value.ref b] s) (F0 m 1092 ls []) := by
  obtain ⟨hx, hb, hr, hml, hown, hts, hX, hbl, hlocks, hgv⟩ := id C0
  have hb : c.code = cL_law := hb
  have hown : s.vm.findClass RL = some m.cls := hown
  obtain ⟨hA, hA2, hE, hT9, hNc, hKC, hKV, hKR⟩ := E0
  have hbA : ¬ A b := fun h => absurd (hA2 b h) (Nat.not_le.mpr hbl)
  obtain ⟨T, th, Fc, Fs, w, v, g, hC, hR, hT, hP, hD, hS, hz, hn⟩ := hI
  have hbd := hC.bd
  refine W.tight (cells2 := Fc + 1000 * j + 125) (slots2 := Fs + 9000 * j + 181434) hz hn ?_
  refine lv_aload_n hx hb dL_law_1092 rfl (lv_at hl 3 rfl) ?_
  refine lawC_v (y := yX11_clear) (ws := wsU_clear) (mc := 15) (ms := 1408) (As := []) (rest := []) ⟨hx, hb, hml, hown, hts⟩ (U_clear l hst dC dI kX kT kM kV kC kN kJ kL kF kO kQ kG kw h1 (((T.1 : Nat) : Int), T.2) Fc Fs w hC H.size) (cwV 0 hts gl_C_clear rfl rfl rfl (by decide +kernel) ⟨Nat.le_of_ble_eq_true rfl, Nat.le_of_ble_eq_true rfl⟩) hC.recv hKC hE hA hP hD hS rfl hl.1 (lv_room (Nat.le_of_ble_eq_true rfl)) dL_law_1093 ⟨show Fc + 1000 * j + 125 + 15 ≤ 327717 by omega, show Fs + 9000 * j + 181434 + 1408 ≤ 8118330 by omega⟩ (fun u H1 locs1 hp hP hD hS hz1 hs1 => ?_)
  obtain ⟨hC1, hL1⟩ := hp
  refine W.tight (cells2 := u.2.1 + 1000 * (j + 1) + 125) (slots2 := u.2.2.1 + 9000 * (j + 1) + 181434) (by omega) (by omega) ?_
  have hbd1 := hC1.bd
  refine lv_aload_n hx hb dL_law_1096 rfl (lv_at hl 2 rfl) ?_
  refine lawR_v (y := yX12_clear) (ws := wsRX12_clear) (mc := 0) (ms := 0) (As := []) (rest := []) ⟨hx, hb, hml, hown, hts⟩ (R_clear l dC dI kv h2 T th v hR H1.size) (cwV 0 hts gl_R_clear rfl rfl rfl (by decide +kernel) ⟨Nat.le_of_ble_eq_true rfl, Nat.le_of_ble_eq_true rfl⟩) hR.recv hKV hT9 hA hP hD hS rfl hl.1 (lv_room (Nat.le_of_ble_eq_true rfl)) dL_law_1097 ⟨show u.2.1 + 1000 * (j + 1) + 125 + 0 ≤ 327717 by omega, show u.2.2.1 + 9000 * (j + 1) + 181434 + 0 ≤ 8118330 by omega⟩ (fun u2 H2 locs2 hp2 hP hD hS => ?_)
  obtain ⟨hR2, hT2⟩ := hp2
  refine lv_goto (tgt := 1507) hx hb dL_law_1100 (by decide) ?_
  refine W.known (fun z1 z2 => ?_)
  have hTT : (((((u2.1.1 : Nat) : Int), u2.1.2) : LT) = u.1 ∧ u2.1.1 ≤ 20 * (j + 1)) := ⟨by rw [hL1, hT2] <;> rfl, by rw [hT2]; first | omega | (dsimp only; omega)⟩
  exact hgo H2 locs2 ls _ _ ⟨u2.1, u2.2.1, u.2.1, u.2.2.1, u.2.2.2, u2.2.2, g, by rw [hTT.1]; exact hC1, hR2, hTT.2, hP, hD, hS, by omega, by omega⟩ (lv_sub hl [0, 1, 2, 3, 4] rfl)
set_option maxHeartbeats 4000000 in
set_option maxRecDepth 100000 in
/-- the law's case 28: clause -/
theorem lc_28 {p : Program} {e : Env} {s : State} {m : MethodId} {below : List Frame} {meth : Method} {c : Code} (l : Launch) (hst : l.stackTraces = false) {b Ls : Nat} {xs : Nat → Int32} (hLs : Ls ≤ 384) (C0 : lw_At p s m meth c b Ls xs) {A : Nat → Prop} (dC : Nat → ClassId) (dI : Nat → Nat → Nat) (kX : Nat → ClassId) (kT : Nat → ClassId) (kM : Nat → ClassId) (kV : Nat → ClassId) (kC : Nat → ClassId) (kN : Nat → ClassId) (kJ : Nat → ClassId) (kL : Nat → ClassId) (kF : Nat → ClassId) (kO : Nat → ClassId) (kQ : Nat → ClassId) (kG : Nat → ClassId) (kw : ClassId) (kv : Nat → ClassId) (kR : ClassId) (E0 : LwC dC dI kX kT kM kV kC kN kJ kL kF kO kQ kG kw kv kR A s) {h1 h2 o j : Nat} (hj : 6 * j + 6 ≤ Ls) {H : Heap} {locs : List Loc} {ls : Array Slot} {cells slots : Nat} (hI : LwI dC dI kX kT kM kV kC kN kJ kL kF kO kQ kG kw kv kR A s h1 h2 o j H locs) (hl : lv_has ls 7 [(4, .int (nI (6 * j))), (3, .ref o), (2, .ref h2), (1, .ref h1), (0, .ref b)])
    (hgo : ∀ (H : Heap) (locs : List Loc) (ls : Array Slot) (cells slots : Nat), LwI dC dI kX kT kM kV kC kN kJ kL kF kO kQ kG kw kv kR A s h1 h2 o (j + 1) H locs → lv_has ls 7 [(4, .int (nI (6 * j))), (3, .ref o), (2, .ref h2), (1, .ref h1), (0, .ref b)] → W p l e room_1 s m #[Value.ref b] below meth c H locs cells slots (lw_Z below #[Value.ref b] s) (F0 m 1507 ls [])) : W p l e room_1 s m #[Value.ref b] below meth c H locs cells slots (lw_Z below #[Value.ref b] s) (F0 m 1103 ls []) := by
  obtain ⟨hx, hb, hr, hml, hown, hts, hX, hbl, hlocks, hgv⟩ := id C0
  have hb : c.code = cL_law := hb
  have hown : s.vm.findClass RL = some m.cls := hown
  obtain ⟨hA, hA2, hE, hT9, hNc, hKC, hKV, hKR⟩ := E0
  have hbA : ¬ A b := fun h => absurd (hA2 b h) (Nat.not_le.mpr hbl)
  obtain ⟨T, th, Fc, Fs, w, v, g, hC, hR, hT, hP, hD, hS, hz, hn⟩ := hI
  have hbd := hC.bd
  refine W.tight (cells2 := Fc + 1000 * j + 125) (slots2 := Fs + 9000 * j + 181434) hz hn ?_
  refine lv_aload_n hx hb dL_law_1103 rfl (lv_at hl 3 rfl) ?_
  refine lw_arg hx hb hX hbl hbA hS (lv_at hl 4 rfl) (lv_at hl 0 rfl) 1 (by omega) hLs (by decide) dL_law_1104 dL_law_1105 dL_law_1107 dL_law_1108 dL_law_1109 ?_
  refine lw_arg hx hb hX hbl hbA hS (lv_at hl 4 rfl) (lv_at hl 0 rfl) 2 (by omega) hLs (by decide) dL_law_1110 dL_law_1111 dL_law_1113 dL_law_1114 dL_law_1115 ?_
  refine lw_arg hx hb hX hbl hbA hS (lv_at hl 4 rfl) (lv_at hl 0 rfl) 3 (by omega) hLs (by decide) dL_law_1116 dL_law_1117 dL_law_1119 dL_law_1120 dL_law_1121 ?_
  refine lv_aload_n hx hb dL_law_1122 rfl (lv_at hl 1 rfl) ?_
  refine lawH_i (y := yL_clause) (ws := wsH_clause) (mc := 7) (ms := 8277) (As := [.ref h1, .int (xs (6 * j + 1)), .int (xs (6 * j + 2)), .int (xs (6 * j + 3)), .ref o]) (rest := []) ⟨hx, hb, hml, hown, hts⟩ (H_clause l hst dC dI kX kT kM kV kC kN kJ kL kF kO kQ kG kw h1 (((T.1 : Nat) : Int), T.2) Fc Fs w (xs (6 * j + 1)) (xs (6 * j + 2)) (xs (6 * j + 3)) o kR g hC H.size) (vx_cwSW 5 hts gl_H_clause rfl rfl rfl (by decide +kernel) ⟨Nat.le_of_ble_eq_true rfl, Nat.le_of_ble_eq_true rfl⟩) (hKR.app hKC) hE hNc hA hP hD hS rfl hl.1 (lv_room (Nat.le_of_ble_eq_true rfl)) dL_law_1123 ⟨show Fc + 1000 * j + 125 + 7 ≤ 327717 by omega, show Fs + 9000 * j + 181434 + 8277 ≤ 8118330 by omega⟩ (fun r1 u H1 locs1 hp hP hD hS hz1 hs1 => ?_)
  obtain ⟨hC1, hL1⟩ := hp
  refine W.tight (cells2 := u.2.1 + 1000 * (j + 1) + 125) (slots2 := u.2.2.1 + 9000 * (j + 1) + 181434) (by omega) (by omega) ?_
  have hbd1 := hC1.bd
  refine lv_istore hx hb dL_law_1126 hl (by decide) rfl (fun ls (hl : lv_has ls _ ([(5, .int r1), (4, .int (nI (6 * j))), (3, .ref o), (2, .ref h2), (1, .ref h1), (0, .ref b)])) => ?_)
  refine lv_aload_n hx hb dL_law_1128 rfl (lv_at hl 3 rfl) ?_
  refine lw_arg hx hb hX hbl hbA hS (lv_at hl 5 rfl) (lv_at hl 1 rfl) 1 (by omega) hLs (by decide) dL_law_1129 dL_law_1130 dL_law_1132 dL_law_1133 dL_law_1134 ?_
  refine lw_arg hx hb hX hbl hbA hS (lv_at hl 5 rfl) (lv_at hl 1 rfl) 2 (by omega) hLs (by decide) dL_law_1135 dL_law_1136 dL_law_1138 dL_law_1139 dL_law_1140 ?_
  refine lw_arg hx hb hX hbl hbA hS (lv_at hl 5 rfl) (lv_at hl 1 rfl) 3 (by omega) hLs (by decide) dL_law_1141 dL_law_1142 dL_law_1144 dL_law_1145 dL_law_1146 ?_
  refine lawR_i (y := yX12_clause) (ws := wsRX12_clause) (mc := 0) (ms := 0) (As := [.int (xs (6 * j + 1)), .int (xs (6 * j + 2)), .int (xs (6 * j + 3))]) (rest := []) ⟨hx, hb, hml, hown, hts⟩ (R_clause l dC dI kv h2 T th v (xs (6 * j + 1)) (xs (6 * j + 2)) (xs (6 * j + 3)) hR H1.size) (cwV 3 hts gl_R_clause rfl rfl rfl (by decide +kernel) ⟨Nat.le_of_ble_eq_true rfl, Nat.le_of_ble_eq_true rfl⟩) hR.recv hKV hT9 hA hP hD hS rfl hl.1 (lv_room (Nat.le_of_ble_eq_true rfl)) dL_law_1147 ⟨show u.2.1 + 1000 * (j + 1) + 125 + 0 ≤ 327717 by omega, show u.2.2.1 + 9000 * (j + 1) + 181434 + 0 ≤ 8118330 by omega⟩ (fun r2 u2 H2 locs2 hp2 hP hD hS => ?_)
  obtain ⟨hR2, hT2⟩ := hp2
  refine lv_istore hx hb dL_law_1150 hl (by decide) rfl (fun ls (hl : lv_has ls _ ([(6, .int r2), (5, .int r1), (4, .int (nI (6 * j))), (3, .ref o), (2, .ref h2), (1, .ref h1), (0, .ref b)])) => ?_)
  refine lv_goto (tgt := 1507) hx hb dL_law_1152 (by decide) ?_
  refine W.known (fun z1 z2 => ?_)
  have hTT : (((((u2.1.1 : Nat) : Int), u2.1.2) : LT) = u.1 ∧ u2.1.1 ≤ 20 * (j + 1)) := by
    rcases lw3 (n := T.2.2.1.1) (m := T.2.2.1.1) rfl hL1 hT2 with ⟨⟨a1, _⟩, a2, _⟩ | ⟨⟨a1, _⟩, a2, _⟩ | ⟨⟨a1, _⟩, a2, _⟩
    · exact ⟨by rw [a1, a2] <;> rfl, by rw [a2]; first | omega | (dsimp only; omega)⟩
    · exact ⟨by rw [a1, a2] <;> rfl, by rw [a2]; first | omega | (dsimp only; omega)⟩
    · exact ⟨by rw [a1, a2] <;> rfl, by rw [a2]; first | omega | (dsimp only; omega)⟩
  exact hgo H2 locs2 ls _ _ ⟨u2.1, u2.2.1, u.2.1, u.2.2.1, u.2.2.2.1, u2.2.2, u.2.2.2.2, by rw [hTT.1]; exact hC1, hR2, hTT.2, hP, hD, hS, by omega, by omega⟩ (lv_sub hl [2, 3, 4, 5, 6] rfl)
set_option maxHeartbeats 4000000 in
set_option maxRecDepth 100000 in
/-- the law's case 29: unsay -/
theorem lc_29 {p : Program} {e : Env} {s : State} {m : MethodId} {below : List Frame} {meth : Method} {c : Code} (l : Launch) (hst : l.stackTraces = false) {b Ls : Nat} {xs : Nat → Int32} (hLs : Ls ≤ 384) (C0 : lw_At p s m meth c b Ls xs) {A : Nat → Prop} (dC : Nat → ClassId) (dI : Nat → Nat → Nat) (kX : Nat → ClassId) (kT : Nat → ClassId) (kM : Nat → ClassId) (kV : Nat → ClassId) (kC : Nat → ClassId) (kN : Nat → ClassId) (kJ : Nat → ClassId) (kL : Nat → ClassId) (kF : Nat → ClassId) (kO : Nat → ClassId) (kQ : Nat → ClassId) (kG : Nat → ClassId) (kw : ClassId) (kv : Nat → ClassId) (kR : ClassId) (E0 : LwC dC dI kX kT kM kV kC kN kJ kL kF kO kQ kG kw kv kR A s) {h1 h2 o j : Nat} (hj : 6 * j + 6 ≤ Ls) {H : Heap} {locs : List Loc} {ls : Array Slot} {cells slots : Nat} (hI : LwI dC dI kX kT kM kV kC kN kJ kL kF kO kQ kG kw kv kR A s h1 h2 o j H locs) (hl : lv_has ls 7 [(4, .int (nI (6 * j))), (3, .ref o), (2, .ref h2), (1, .ref h1), (0, .ref b)])
    (hgo : ∀ (H : Heap) (locs : List Loc) (ls : Array Slot) (cells slots : Nat), LwI dC dI kX kT kM kV kC kN kJ kL kF kO kQ kG kw kv kR A s h1 h2 o (j + 1) H locs → lv_has ls 7 [(4, .int (nI (6 * j))), (3, .ref o), (2, .ref h2), (1, .ref h1), (0, .ref b)] → W p l e room_1 s m #[Value.ref b] below meth c H locs cells slots (lw_Z below #[Value.ref b] s) (F0 m 1507 ls [])) : W p l e room_1 s m #[Value.ref b] below meth c H locs cells slots (lw_Z below #[Value.ref b] s) (F0 m 1155 ls []) := by
  obtain ⟨hx, hb, hr, hml, hown, hts, hX, hbl, hlocks, hgv⟩ := id C0
  have hb : c.code = cL_law := hb
  have hown : s.vm.findClass RL = some m.cls := hown
  obtain ⟨hA, hA2, hE, hT9, hNc, hKC, hKV, hKR⟩ := E0
  have hbA : ¬ A b := fun h => absurd (hA2 b h) (Nat.not_le.mpr hbl)
  obtain ⟨T, th, Fc, Fs, w, v, g, hC, hR, hT, hP, hD, hS, hz, hn⟩ := hI
  have hbd := hC.bd
  refine W.tight (cells2 := Fc + 1000 * j + 125) (slots2 := Fs + 9000 * j + 181434) hz hn ?_
  refine lv_aload_n hx hb dL_law_1155 rfl (lv_at hl 3 rfl) ?_
  refine lawC_i (y := yX11_unsay) (ws := wsU_unsay) (mc := 6) (ms := 8271) (As := []) (rest := []) ⟨hx, hb, hml, hown, hts⟩ (U_unsay l hst dC dI kX kT kM kV kC kN kJ kL kF kO kQ kG kw h1 (((T.1 : Nat) : Int), T.2) Fc Fs w hC H.size) (cwV 0 hts gl_C_unsay rfl rfl rfl (by decide +kernel) ⟨Nat.le_of_ble_eq_true rfl, Nat.le_of_ble_eq_true rfl⟩) hC.recv hKC hE hA hP hD hS rfl hl.1 (lv_room (Nat.le_of_ble_eq_true rfl)) dL_law_1156 ⟨show Fc + 1000 * j + 125 + 6 ≤ 327717 by omega, show Fs + 9000 * j + 181434 + 8271 ≤ 8118330 by omega⟩ (fun r1 u H1 locs1 hp hP hD hS hz1 hs1 => ?_)
  obtain ⟨hC1, hL1⟩ := hp
  refine W.tight (cells2 := u.2.1 + 1000 * (j + 1) + 125) (slots2 := u.2.2.1 + 9000 * (j + 1) + 181434) (by omega) (by omega) ?_
  have hbd1 := hC1.bd
  refine lv_pop hx hb dL_law_1159 rfl ?_
  refine lv_aload_n hx hb dL_law_1160 rfl (lv_at hl 2 rfl) ?_
  refine lawR_i (y := yX12_unsay) (ws := wsRX12_unsay) (mc := 0) (ms := 0) (As := []) (rest := []) ⟨hx, hb, hml, hown, hts⟩ (R_unsay l dC dI kv h2 T th v hR H1.size) (cwV 0 hts gl_R_unsay rfl rfl rfl (by decide +kernel) ⟨Nat.le_of_ble_eq_true rfl, Nat.le_of_ble_eq_true rfl⟩) hR.recv hKV hT9 hA hP hD hS rfl hl.1 (lv_room (Nat.le_of_ble_eq_true rfl)) dL_law_1161 ⟨show u.2.1 + 1000 * (j + 1) + 125 + 0 ≤ 327717 by omega, show u.2.2.1 + 9000 * (j + 1) + 181434 + 0 ≤ 8118330 by omega⟩ (fun r2 u2 H2 locs2 hp2 hP hD hS => ?_)
  obtain ⟨hR2, hT2⟩ := hp2
  refine lv_pop hx hb dL_law_1164 rfl ?_
  refine lv_goto (tgt := 1507) hx hb dL_law_1165 (by decide) ?_
  refine W.known (fun z1 z2 => ?_)
  have hTT : (((((u2.1.1 : Nat) : Int), u2.1.2) : LT) = u.1 ∧ u2.1.1 ≤ 20 * (j + 1)) := by
    rcases lw2 (n := T.2.2.1.1) (m := T.2.2.1.1) rfl hL1 hT2 with ⟨⟨a1, _⟩, a2, _⟩ | ⟨⟨a1, _⟩, a2, _⟩
    · exact ⟨by rw [a1, a2] <;> rfl, by rw [a2]; first | omega | (dsimp only; omega)⟩
    · exact ⟨by rw [a1, a2] <;> rfl, by rw [a2]; first | omega | (dsimp only; omega)⟩
  exact hgo H2 locs2 ls _ _ ⟨u2.1, u2.2.1, u.2.1, u.2.2.1, u.2.2.2, u2.2.2, g, by rw [hTT.1]; exact hC1, hR2, hTT.2, hP, hD, hS, by omega, by omega⟩ (lv_sub hl [0, 1, 2, 3, 4] rfl)
set_option maxHeartbeats 4000000 in
set_option maxRecDepth 100000 in
/-- the law's case 30: truth -/
theorem lc_30 {p : Program} {e : Env} {s : State} {m : MethodId} {below : List Frame} {meth : Method} {c : Code} (l : Launch) (hst : l.stackTraces = false) {b Ls : Nat} {xs : Nat → Int32} (hLs : Ls ≤ 384) (C0 : lw_At p s m meth c b Ls xs) {A : Nat → Prop} (dC : Nat → ClassId) (dI : Nat → Nat → Nat) (kX : Nat → ClassId) (kT : Nat → ClassId) (kM : Nat → ClassId) (kV : Nat → ClassId) (kC : Nat → ClassId) (kN : Nat → ClassId) (kJ : Nat → ClassId) (kL : Nat → ClassId) (kF : Nat → ClassId) (kO : Nat → ClassId) (kQ : Nat → ClassId) (kG : Nat → ClassId) (kw : ClassId) (kv : Nat → ClassId) (kR : ClassId) (E0 : LwC dC dI kX kT kM kV kC kN kJ kL kF kO kQ kG kw kv kR A s) {h1 h2 o j : Nat} (hj : 6 * j + 6 ≤ Ls) {H : Heap} {locs : List Loc} {ls : Array Slot} {cells slots : Nat} (hI : LwI dC dI kX kT kM kV kC kN kJ kL kF kO kQ kG kw kv kR A s h1 h2 o j H locs) (hl : lv_has ls 7 [(4, .int (nI (6 * j))), (3, .ref o), (2, .ref h2), (1, .ref h1), (0, .ref b)])
    (hgo : ∀ (H : Heap) (locs : List Loc) (ls : Array Slot) (cells slots : Nat), LwI dC dI kX kT kM kV kC kN kJ kL kF kO kQ kG kw kv kR A s h1 h2 o (j + 1) H locs → lv_has ls 7 [(4, .int (nI (6 * j))), (3, .ref o), (2, .ref h2), (1, .ref h1), (0, .ref b)] → W p l e room_1 s m #[Value.ref b] below meth c H locs cells slots (lw_Z below #[Value.ref b] s) (F0 m 1507 ls [])) : W p l e room_1 s m #[Value.ref b] below meth c H locs cells slots (lw_Z below #[Value.ref b] s) (F0 m 1168 ls []) := by
  obtain ⟨hx, hb, hr, hml, hown, hts, hX, hbl, hlocks, hgv⟩ := id C0
  have hb : c.code = cL_law := hb
  have hown : s.vm.findClass RL = some m.cls := hown
  obtain ⟨hA, hA2, hE, hT9, hNc, hKC, hKV, hKR⟩ := E0
  have hbA : ¬ A b := fun h => absurd (hA2 b h) (Nat.not_le.mpr hbl)
  obtain ⟨T, th, Fc, Fs, w, v, g, hC, hR, hT, hP, hD, hS, hz, hn⟩ := hI
  have hbd := hC.bd
  refine W.tight (cells2 := Fc + 1000 * j + 125) (slots2 := Fs + 9000 * j + 181434) hz hn ?_
  refine lv_aload_n hx hb dL_law_1168 rfl (lv_at hl 3 rfl) ?_
  refine lw_arg hx hb hX hbl hbA hS (lv_at hl 4 rfl) (lv_at hl 0 rfl) 1 (by omega) hLs (by decide) dL_law_1169 dL_law_1170 dL_law_1172 dL_law_1173 dL_law_1174 ?_
  refine lawC_i (y := yX11_truth) (ws := wsU_truth) (mc := 6) (ms := 8271) (As := [.int (xs (6 * j + 1))]) (rest := []) ⟨hx, hb, hml, hown, hts⟩ (U_truth l hst dC dI kX kT kM kV kC kN kJ kL kF kO kQ kG kw h1 (((T.1 : Nat) : Int), T.2) Fc Fs w (xs (6 * j + 1)) hC H.size) (cwV 1 hts gl_C_truth rfl rfl rfl (by decide +kernel) ⟨Nat.le_of_ble_eq_true rfl, Nat.le_of_ble_eq_true rfl⟩) hC.recv hKC hE hA hP hD hS rfl hl.1 (lv_room (Nat.le_of_ble_eq_true rfl)) dL_law_1175 ⟨show Fc + 1000 * j + 125 + 6 ≤ 327717 by omega, show Fs + 9000 * j + 181434 + 8271 ≤ 8118330 by omega⟩ (fun r1 u H1 locs1 hp hP hD hS hz1 hs1 => ?_)
  obtain ⟨hC1, hL1⟩ := hp
  refine W.tight (cells2 := u.2.1 + 1000 * (j + 1) + 125) (slots2 := u.2.2.1 + 9000 * (j + 1) + 181434) (by omega) (by omega) ?_
  have hbd1 := hC1.bd
  refine lv_pop hx hb dL_law_1178 rfl ?_
  refine lv_aload_n hx hb dL_law_1179 rfl (lv_at hl 2 rfl) ?_
  refine lw_arg hx hb hX hbl hbA hS (lv_at hl 4 rfl) (lv_at hl 0 rfl) 1 (by omega) hLs (by decide) dL_law_1180 dL_law_1181 dL_law_1183 dL_law_1184 dL_law_1185 ?_
  refine lawR_i (y := yX12_truth) (ws := wsRX12_truth) (mc := 0) (ms := 0) (As := [.int (xs (6 * j + 1))]) (rest := []) ⟨hx, hb, hml, hown, hts⟩ (R_truth l dC dI kv h2 T th v (xs (6 * j + 1)) hR H1.size) (cwV 1 hts gl_R_truth rfl rfl rfl (by decide +kernel) ⟨Nat.le_of_ble_eq_true rfl, Nat.le_of_ble_eq_true rfl⟩) hR.recv hKV hT9 hA hP hD hS rfl hl.1 (lv_room (Nat.le_of_ble_eq_true rfl)) dL_law_1186 ⟨show u.2.1 + 1000 * (j + 1) + 125 + 0 ≤ 327717 by omega, show u.2.2.1 + 9000 * (j + 1) + 181434 + 0 ≤ 8118330 by omega⟩ (fun r2 u2 H2 locs2 hp2 hP hD hS => ?_)
  obtain ⟨hR2, hT2⟩ := hp2
  refine lv_pop hx hb dL_law_1189 rfl ?_
  refine lv_goto (tgt := 1507) hx hb dL_law_1190 (by decide) ?_
  refine W.known (fun z1 z2 => ?_)
  have hL0 := hL1.1
  have hT0 := hT2.1
  have hTT : (((((u2.1.1 : Nat) : Int), u2.1.2) : LT) = u.1 ∧ u2.1.1 ≤ 20 * (j + 1)) := ⟨by rw [hL0, hT0] <;> rfl, by rw [hT0]; first | omega | (dsimp only; omega)⟩
  exact hgo H2 locs2 ls _ _ ⟨u2.1, u2.2.1, u.2.1, u.2.2.1, u.2.2.2, u2.2.2, g, by rw [hTT.1]; exact hC1, hR2, hTT.2, hP, hD, hS, by omega, by omega⟩ (lv_sub hl [0, 1, 2, 3, 4] rfl)
set_option maxHeartbeats 4000000 in
set_option maxRecDepth 100000 in
/-- the law's case 31: arc -/
theorem lc_31 {p : Program} {e : Env} {s : State} {m : MethodId} {below : List Frame} {meth : Method} {c : Code} (l : Launch) (hst : l.stackTraces = false) {b Ls : Nat} {xs : Nat → Int32} (hLs : Ls ≤ 384) (C0 : lw_At p s m meth c b Ls xs) {A : Nat → Prop} (dC : Nat → ClassId) (dI : Nat → Nat → Nat) (kX : Nat → ClassId) (kT : Nat → ClassId) (kM : Nat → ClassId) (kV : Nat → ClassId) (kC : Nat → ClassId) (kN : Nat → ClassId) (kJ : Nat → ClassId) (kL : Nat → ClassId) (kF : Nat → ClassId) (kO : Nat → ClassId) (kQ : Nat → ClassId) (kG : Nat → ClassId) (kw : ClassId) (kv : Nat → ClassId) (kR : ClassId) (E0 : LwC dC dI kX kT kM kV kC kN kJ kL kF kO kQ kG kw kv kR A s) {h1 h2 o j : Nat} (hj : 6 * j + 6 ≤ Ls) {H : Heap} {locs : List Loc} {ls : Array Slot} {cells slots : Nat} (hI : LwI dC dI kX kT kM kV kC kN kJ kL kF kO kQ kG kw kv kR A s h1 h2 o j H locs) (hl : lv_has ls 7 [(4, .int (nI (6 * j))), (3, .ref o), (2, .ref h2), (1, .ref h1), (0, .ref b)])
    (hgo : ∀ (H : Heap) (locs : List Loc) (ls : Array Slot) (cells slots : Nat), LwI dC dI kX kT kM kV kC kN kJ kL kF kO kQ kG kw kv kR A s h1 h2 o (j + 1) H locs → lv_has ls 7 [(4, .int (nI (6 * j))), (3, .ref o), (2, .ref h2), (1, .ref h1), (0, .ref b)] → W p l e room_1 s m #[Value.ref b] below meth c H locs cells slots (lw_Z below #[Value.ref b] s) (F0 m 1507 ls [])) : W p l e room_1 s m #[Value.ref b] below meth c H locs cells slots (lw_Z below #[Value.ref b] s) (F0 m 1193 ls []) := by
  obtain ⟨hx, hb, hr, hml, hown, hts, hX, hbl, hlocks, hgv⟩ := id C0
  have hb : c.code = cL_law := hb
  have hown : s.vm.findClass RL = some m.cls := hown
  obtain ⟨hA, hA2, hE, hT9, hNc, hKC, hKV, hKR⟩ := E0
  have hbA : ¬ A b := fun h => absurd (hA2 b h) (Nat.not_le.mpr hbl)
  obtain ⟨T, th, Fc, Fs, w, v, g, hC, hR, hT, hP, hD, hS, hz, hn⟩ := hI
  have hbd := hC.bd
  refine W.tight (cells2 := Fc + 1000 * j + 125) (slots2 := Fs + 9000 * j + 181434) hz hn ?_
  refine lv_aload_n hx hb dL_law_1193 rfl (lv_at hl 3 rfl) ?_
  refine lw_arg hx hb hX hbl hbA hS (lv_at hl 4 rfl) (lv_at hl 0 rfl) 1 (by omega) hLs (by decide) dL_law_1194 dL_law_1195 dL_law_1197 dL_law_1198 dL_law_1199 ?_
  refine lw_arg hx hb hX hbl hbA hS (lv_at hl 4 rfl) (lv_at hl 0 rfl) 2 (by omega) hLs (by decide) dL_law_1200 dL_law_1201 dL_law_1203 dL_law_1204 dL_law_1205 ?_
  refine lw_arg hx hb hX hbl hbA hS (lv_at hl 4 rfl) (lv_at hl 0 rfl) 3 (by omega) hLs (by decide) dL_law_1206 dL_law_1207 dL_law_1209 dL_law_1210 dL_law_1211 ?_
  refine lw_arg hx hb hX hbl hbA hS (lv_at hl 4 rfl) (lv_at hl 0 rfl) 4 (by omega) hLs (by decide) dL_law_1212 dL_law_1213 dL_law_1215 dL_law_1216 dL_law_1217 ?_
  refine lv_aload_n hx hb dL_law_1218 rfl (lv_at hl 1 rfl) ?_
  refine lawH_i (y := yL_arc) (ws := wsH_arc) (mc := 13) (ms := 1484) (As := [.ref h1, .int (xs (6 * j + 1)), .int (xs (6 * j + 2)), .int (xs (6 * j + 3)), .int (xs (6 * j + 4)), .ref o]) (rest := []) ⟨hx, hb, hml, hown, hts⟩ (H_arc l hst dC dI kX kT kM kV kC kN kJ kL kF kO kQ kG kw h1 (((T.1 : Nat) : Int), T.2) Fc Fs w (xs (6 * j + 1)) (xs (6 * j + 2)) (xs (6 * j + 3)) (xs (6 * j + 4)) o kR g hC H.size) (vx_cwSW 6 hts gl_H_arc rfl rfl rfl (by decide +kernel) ⟨Nat.le_of_ble_eq_true rfl, Nat.le_of_ble_eq_true rfl⟩) (hKR.app hKC) hE hNc hA hP hD hS rfl hl.1 (lv_room (Nat.le_of_ble_eq_true rfl)) dL_law_1219 ⟨show Fc + 1000 * j + 125 + 13 ≤ 327717 by omega, show Fs + 9000 * j + 181434 + 1484 ≤ 8118330 by omega⟩ (fun r1 u H1 locs1 hp hP hD hS hz1 hs1 => ?_)
  obtain ⟨hC1, hL1⟩ := hp
  refine W.tight (cells2 := u.2.1 + 1000 * (j + 1) + 125) (slots2 := u.2.2.1 + 9000 * (j + 1) + 181434) (by omega) (by omega) ?_
  have hbd1 := hC1.bd
  refine lv_istore hx hb dL_law_1222 hl (by decide) rfl (fun ls (hl : lv_has ls _ ([(5, .int r1), (4, .int (nI (6 * j))), (3, .ref o), (2, .ref h2), (1, .ref h1), (0, .ref b)])) => ?_)
  refine lv_aload_n hx hb dL_law_1224 rfl (lv_at hl 3 rfl) ?_
  refine lw_arg hx hb hX hbl hbA hS (lv_at hl 5 rfl) (lv_at hl 1 rfl) 1 (by omega) hLs (by decide) dL_law_1225 dL_law_1226 dL_law_1228 dL_law_1229 dL_law_1230 ?_
  refine lw_arg hx hb hX hbl hbA hS (lv_at hl 5 rfl) (lv_at hl 1 rfl) 2 (by omega) hLs (by decide) dL_law_1231 dL_law_1232 dL_law_1234 dL_law_1235 dL_law_1236 ?_
  refine lw_arg hx hb hX hbl hbA hS (lv_at hl 5 rfl) (lv_at hl 1 rfl) 3 (by omega) hLs (by decide) dL_law_1237 dL_law_1238 dL_law_1240 dL_law_1241 dL_law_1242 ?_
  refine lw_arg hx hb hX hbl hbA hS (lv_at hl 5 rfl) (lv_at hl 1 rfl) 4 (by omega) hLs (by decide) dL_law_1243 dL_law_1244 dL_law_1246 dL_law_1247 dL_law_1248 ?_
  refine lawR_i (y := yX12_arc) (ws := wsRX12_arc) (mc := 0) (ms := 0) (As := [.int (xs (6 * j + 1)), .int (xs (6 * j + 2)), .int (xs (6 * j + 3)), .int (xs (6 * j + 4))]) (rest := []) ⟨hx, hb, hml, hown, hts⟩ (R_arc l dC dI kv h2 T th v (xs (6 * j + 1)) (xs (6 * j + 2)) (xs (6 * j + 3)) (xs (6 * j + 4)) hR H1.size) (cwV 4 hts gl_R_arc rfl rfl rfl (by decide +kernel) ⟨Nat.le_of_ble_eq_true rfl, Nat.le_of_ble_eq_true rfl⟩) hR.recv hKV hT9 hA hP hD hS rfl hl.1 (lv_room (Nat.le_of_ble_eq_true rfl)) dL_law_1249 ⟨show u.2.1 + 1000 * (j + 1) + 125 + 0 ≤ 327717 by omega, show u.2.2.1 + 9000 * (j + 1) + 181434 + 0 ≤ 8118330 by omega⟩ (fun r2 u2 H2 locs2 hp2 hP hD hS => ?_)
  obtain ⟨hR2, hT2⟩ := hp2
  refine lv_istore hx hb dL_law_1252 hl (by decide) rfl (fun ls (hl : lv_has ls _ ([(6, .int r2), (5, .int r1), (4, .int (nI (6 * j))), (3, .ref o), (2, .ref h2), (1, .ref h1), (0, .ref b)])) => ?_)
  refine lv_goto (tgt := 1507) hx hb dL_law_1254 (by decide) ?_
  refine W.known (fun z1 z2 => ?_)
  have hTT : (((((u2.1.1 : Nat) : Int), u2.1.2) : LT) = u.1 ∧ u2.1.1 ≤ 20 * (j + 1)) := by
    rcases lw3 (n := T.2.1.1) (m := T.2.1.1) rfl hL1 hT2 with ⟨⟨a1, _⟩, a2, _⟩ | ⟨⟨a1, _⟩, a2, _⟩ | ⟨⟨a1, _⟩, a2, _⟩
    · exact ⟨by rw [a1, a2] <;> rfl, by rw [a2]; first | omega | (dsimp only; omega)⟩
    · exact ⟨by rw [a1, a2] <;> rfl, by rw [a2]; first | omega | (dsimp only; omega)⟩
    · exact ⟨by rw [a1, a2] <;> rfl, by rw [a2]; first | omega | (dsimp only; omega)⟩
  exact hgo H2 locs2 ls _ _ ⟨u2.1, u2.2.1, u.2.1, u.2.2.1, u.2.2.2.1, u2.2.2, u.2.2.2.2, by rw [hTT.1]; exact hC1, hR2, hTT.2, hP, hD, hS, by omega, by omega⟩ (lv_sub hl [2, 3, 4, 5, 6] rfl)
set_option maxHeartbeats 4000000 in
set_option maxRecDepth 100000 in
/-- the law's case 32: unarc -/
theorem lc_32 {p : Program} {e : Env} {s : State} {m : MethodId} {below : List Frame} {meth : Method} {c : Code} (l : Launch) (hst : l.stackTraces = false) {b Ls : Nat} {xs : Nat → Int32} (hLs : Ls ≤ 384) (C0 : lw_At p s m meth c b Ls xs) {A : Nat → Prop} (dC : Nat → ClassId) (dI : Nat → Nat → Nat) (kX : Nat → ClassId) (kT : Nat → ClassId) (kM : Nat → ClassId) (kV : Nat → ClassId) (kC : Nat → ClassId) (kN : Nat → ClassId) (kJ : Nat → ClassId) (kL : Nat → ClassId) (kF : Nat → ClassId) (kO : Nat → ClassId) (kQ : Nat → ClassId) (kG : Nat → ClassId) (kw : ClassId) (kv : Nat → ClassId) (kR : ClassId) (E0 : LwC dC dI kX kT kM kV kC kN kJ kL kF kO kQ kG kw kv kR A s) {h1 h2 o j : Nat} (hj : 6 * j + 6 ≤ Ls) {H : Heap} {locs : List Loc} {ls : Array Slot} {cells slots : Nat} (hI : LwI dC dI kX kT kM kV kC kN kJ kL kF kO kQ kG kw kv kR A s h1 h2 o j H locs) (hl : lv_has ls 7 [(4, .int (nI (6 * j))), (3, .ref o), (2, .ref h2), (1, .ref h1), (0, .ref b)])
    (hgo : ∀ (H : Heap) (locs : List Loc) (ls : Array Slot) (cells slots : Nat), LwI dC dI kX kT kM kV kC kN kJ kL kF kO kQ kG kw kv kR A s h1 h2 o (j + 1) H locs → lv_has ls 7 [(4, .int (nI (6 * j))), (3, .ref o), (2, .ref h2), (1, .ref h1), (0, .ref b)] → W p l e room_1 s m #[Value.ref b] below meth c H locs cells slots (lw_Z below #[Value.ref b] s) (F0 m 1507 ls [])) : W p l e room_1 s m #[Value.ref b] below meth c H locs cells slots (lw_Z below #[Value.ref b] s) (F0 m 1257 ls []) := by
  obtain ⟨hx, hb, hr, hml, hown, hts, hX, hbl, hlocks, hgv⟩ := id C0
  have hb : c.code = cL_law := hb
  have hown : s.vm.findClass RL = some m.cls := hown
  obtain ⟨hA, hA2, hE, hT9, hNc, hKC, hKV, hKR⟩ := E0
  have hbA : ¬ A b := fun h => absurd (hA2 b h) (Nat.not_le.mpr hbl)
  obtain ⟨T, th, Fc, Fs, w, v, g, hC, hR, hT, hP, hD, hS, hz, hn⟩ := hI
  have hbd := hC.bd
  refine W.tight (cells2 := Fc + 1000 * j + 125) (slots2 := Fs + 9000 * j + 181434) hz hn ?_
  refine lv_aload_n hx hb dL_law_1257 rfl (lv_at hl 3 rfl) ?_
  refine lawC_i (y := yX11_unarc) (ws := wsU_unarc) (mc := 12) (ms := 1478) (As := []) (rest := []) ⟨hx, hb, hml, hown, hts⟩ (U_unarc l hst dC dI kX kT kM kV kC kN kJ kL kF kO kQ kG kw h1 (((T.1 : Nat) : Int), T.2) Fc Fs w hC H.size) (cwV 0 hts gl_C_unarc rfl rfl rfl (by decide +kernel) ⟨Nat.le_of_ble_eq_true rfl, Nat.le_of_ble_eq_true rfl⟩) hC.recv hKC hE hA hP hD hS rfl hl.1 (lv_room (Nat.le_of_ble_eq_true rfl)) dL_law_1258 ⟨show Fc + 1000 * j + 125 + 12 ≤ 327717 by omega, show Fs + 9000 * j + 181434 + 1478 ≤ 8118330 by omega⟩ (fun r1 u H1 locs1 hp hP hD hS hz1 hs1 => ?_)
  obtain ⟨hC1, hL1⟩ := hp
  refine W.tight (cells2 := u.2.1 + 1000 * (j + 1) + 125) (slots2 := u.2.2.1 + 9000 * (j + 1) + 181434) (by omega) (by omega) ?_
  have hbd1 := hC1.bd
  refine lv_pop hx hb dL_law_1261 rfl ?_
  refine lv_aload_n hx hb dL_law_1262 rfl (lv_at hl 2 rfl) ?_
  refine lawR_i (y := yX12_unarc) (ws := wsRX12_unarc) (mc := 0) (ms := 0) (As := []) (rest := []) ⟨hx, hb, hml, hown, hts⟩ (R_unarc l dC dI kv h2 T th v hR H1.size) (cwV 0 hts gl_R_unarc rfl rfl rfl (by decide +kernel) ⟨Nat.le_of_ble_eq_true rfl, Nat.le_of_ble_eq_true rfl⟩) hR.recv hKV hT9 hA hP hD hS rfl hl.1 (lv_room (Nat.le_of_ble_eq_true rfl)) dL_law_1263 ⟨show u.2.1 + 1000 * (j + 1) + 125 + 0 ≤ 327717 by omega, show u.2.2.1 + 9000 * (j + 1) + 181434 + 0 ≤ 8118330 by omega⟩ (fun r2 u2 H2 locs2 hp2 hP hD hS => ?_)
  obtain ⟨hR2, hT2⟩ := hp2
  refine lv_pop hx hb dL_law_1266 rfl ?_
  refine lv_goto (tgt := 1507) hx hb dL_law_1267 (by decide) ?_
  refine W.known (fun z1 z2 => ?_)
  have hTT : (((((u2.1.1 : Nat) : Int), u2.1.2) : LT) = u.1 ∧ u2.1.1 ≤ 20 * (j + 1)) := by
    rcases lw2 (n := T.2.1.1) (m := T.2.1.1) rfl hL1 hT2 with ⟨⟨a1, _⟩, a2, _⟩ | ⟨⟨a1, _⟩, a2, _⟩
    · exact ⟨by rw [a1, a2] <;> rfl, by rw [a2]; first | omega | (dsimp only; omega)⟩
    · exact ⟨by rw [a1, a2] <;> rfl, by rw [a2]; first | omega | (dsimp only; omega)⟩
  exact hgo H2 locs2 ls _ _ ⟨u2.1, u2.2.1, u.2.1, u.2.2.1, u.2.2.2, u2.2.2, g, by rw [hTT.1]; exact hC1, hR2, hTT.2, hP, hD, hS, by omega, by omega⟩ (lv_sub hl [0, 1, 2, 3, 4] rfl)
set_option maxHeartbeats 4000000 in
set_option maxRecDepth 100000 in
/-- the law's case 33: greatest -/
theorem lc_33 {p : Program} {e : Env} {s : State} {m : MethodId} {below : List Frame} {meth : Method} {c : Code} (l : Launch) (hst : l.stackTraces = false) {b Ls : Nat} {xs : Nat → Int32} (hLs : Ls ≤ 384) (C0 : lw_At p s m meth c b Ls xs) {A : Nat → Prop} (dC : Nat → ClassId) (dI : Nat → Nat → Nat) (kX : Nat → ClassId) (kT : Nat → ClassId) (kM : Nat → ClassId) (kV : Nat → ClassId) (kC : Nat → ClassId) (kN : Nat → ClassId) (kJ : Nat → ClassId) (kL : Nat → ClassId) (kF : Nat → ClassId) (kO : Nat → ClassId) (kQ : Nat → ClassId) (kG : Nat → ClassId) (kw : ClassId) (kv : Nat → ClassId) (kR : ClassId) (E0 : LwC dC dI kX kT kM kV kC kN kJ kL kF kO kQ kG kw kv kR A s) {h1 h2 o j : Nat} (hj : 6 * j + 6 ≤ Ls) {H : Heap} {locs : List Loc} {ls : Array Slot} {cells slots : Nat} (hI : LwI dC dI kX kT kM kV kC kN kJ kL kF kO kQ kG kw kv kR A s h1 h2 o j H locs) (hl : lv_has ls 7 [(4, .int (nI (6 * j))), (3, .ref o), (2, .ref h2), (1, .ref h1), (0, .ref b)])
    (hgo : ∀ (H : Heap) (locs : List Loc) (ls : Array Slot) (cells slots : Nat), LwI dC dI kX kT kM kV kC kN kJ kL kF kO kQ kG kw kv kR A s h1 h2 o (j + 1) H locs → lv_has ls 7 [(4, .int (nI (6 * j))), (3, .ref o), (2, .ref h2), (1, .ref h1), (0, .ref b)] → W p l e room_1 s m #[Value.ref b] below meth c H locs cells slots (lw_Z below #[Value.ref b] s) (F0 m 1507 ls [])) : W p l e room_1 s m #[Value.ref b] below meth c H locs cells slots (lw_Z below #[Value.ref b] s) (F0 m 1270 ls []) := by
  obtain ⟨hx, hb, hr, hml, hown, hts, hX, hbl, hlocks, hgv⟩ := id C0
  have hb : c.code = cL_law := hb
  have hown : s.vm.findClass RL = some m.cls := hown
  obtain ⟨hA, hA2, hE, hT9, hNc, hKC, hKV, hKR⟩ := E0
  have hbA : ¬ A b := fun h => absurd (hA2 b h) (Nat.not_le.mpr hbl)
  obtain ⟨T, th, Fc, Fs, w, v, g, hC, hR, hT, hP, hD, hS, hz, hn⟩ := hI
  have hbd := hC.bd
  refine W.tight (cells2 := Fc + 1000 * j + 125) (slots2 := Fs + 9000 * j + 181434) hz hn ?_
  refine lv_aload_n hx hb dL_law_1270 rfl (lv_at hl 3 rfl) ?_
  refine lw_arg hx hb hX hbl hbA hS (lv_at hl 4 rfl) (lv_at hl 0 rfl) 1 (by omega) hLs (by decide) dL_law_1271 dL_law_1272 dL_law_1274 dL_law_1275 dL_law_1276 ?_
  refine lw_arg hx hb hX hbl hbA hS (lv_at hl 4 rfl) (lv_at hl 0 rfl) 2 (by omega) hLs (by decide) dL_law_1277 dL_law_1278 dL_law_1280 dL_law_1281 dL_law_1282 ?_
  refine lv_aload_n hx hb dL_law_1283 rfl (lv_at hl 1 rfl) ?_
  refine lawH_i (y := yL_greatest) (ws := wsH_greatest) (mc := 12) (ms := 1478) (As := [.ref h1, .int (xs (6 * j + 1)), .int (xs (6 * j + 2)), .ref o]) (rest := []) ⟨hx, hb, hml, hown, hts⟩ (H_greatest l hst dC dI kX kT kM kV kC kN kJ kL kF kO kQ kG kw h1 (((T.1 : Nat) : Int), T.2) Fc Fs w (xs (6 * j + 1)) (xs (6 * j + 2)) o kR g hC hR.val hR.rm H.size) (vx_cwSW 4 hts gl_H_greatest rfl rfl rfl (by decide +kernel) ⟨Nat.le_of_ble_eq_true rfl, Nat.le_of_ble_eq_true rfl⟩) (hKR.app hKC) hE hNc hA hP hD hS rfl hl.1 (lv_room (Nat.le_of_ble_eq_true rfl)) dL_law_1284 ⟨show Fc + 1000 * j + 125 + 12 ≤ 327717 by omega, show Fs + 9000 * j + 181434 + 1478 ≤ 8118330 by omega⟩ (fun r1 u H1 locs1 hp hP hD hS hz1 hs1 => ?_)
  obtain ⟨hC1, hL1⟩ := hp
  refine W.tight (cells2 := u.2.1 + 1000 * (j + 1) + 125) (slots2 := u.2.2.1 + 9000 * (j + 1) + 181434) (by omega) (by omega) ?_
  have hbd1 := hC1.bd
  refine lv_istore hx hb dL_law_1287 hl (by decide) rfl (fun ls (hl : lv_has ls _ ([(5, .int r1), (4, .int (nI (6 * j))), (3, .ref o), (2, .ref h2), (1, .ref h1), (0, .ref b)])) => ?_)
  refine lv_aload_n hx hb dL_law_1289 rfl (lv_at hl 3 rfl) ?_
  refine lw_arg hx hb hX hbl hbA hS (lv_at hl 5 rfl) (lv_at hl 1 rfl) 1 (by omega) hLs (by decide) dL_law_1290 dL_law_1291 dL_law_1293 dL_law_1294 dL_law_1295 ?_
  refine lw_arg hx hb hX hbl hbA hS (lv_at hl 5 rfl) (lv_at hl 1 rfl) 2 (by omega) hLs (by decide) dL_law_1296 dL_law_1297 dL_law_1299 dL_law_1300 dL_law_1301 ?_
  refine lawR_i (y := yX12_greatest) (ws := wsRX12_greatest) (mc := 0) (ms := 0) (As := [.int (xs (6 * j + 1)), .int (xs (6 * j + 2))]) (rest := []) ⟨hx, hb, hml, hown, hts⟩ (R_greatest l dC dI kv h2 T th v (xs (6 * j + 1)) (xs (6 * j + 2)) hR H1.size) (cwV 2 hts gl_R_greatest rfl rfl rfl (by decide +kernel) ⟨Nat.le_of_ble_eq_true rfl, Nat.le_of_ble_eq_true rfl⟩) hR.recv hKV hT9 hA hP hD hS rfl hl.1 (lv_room (Nat.le_of_ble_eq_true rfl)) dL_law_1302 ⟨show u.2.1 + 1000 * (j + 1) + 125 + 0 ≤ 327717 by omega, show u.2.2.1 + 9000 * (j + 1) + 181434 + 0 ≤ 8118330 by omega⟩ (fun r2 u2 H2 locs2 hp2 hP hD hS => ?_)
  obtain ⟨hR2, hT2⟩ := hp2
  refine lv_istore hx hb dL_law_1305 hl (by decide) rfl (fun ls (hl : lv_has ls _ ([(6, .int r2), (5, .int r1), (4, .int (nI (6 * j))), (3, .ref o), (2, .ref h2), (1, .ref h1), (0, .ref b)])) => ?_)
  refine lv_goto (tgt := 1507) hx hb dL_law_1307 (by decide) ?_
  refine W.known (fun z1 z2 => ?_)
  have hTT : (((((u2.1.1 : Nat) : Int), u2.1.2) : LT) = u.1 ∧ u2.1.1 ≤ 20 * (j + 1)) := by
    rcases lw3c hL1 hT2 with ⟨⟨a1, _⟩, a2, _⟩ | ⟨⟨a1, _⟩, a2, _⟩ | ⟨_, ⟨a1, _⟩, a2, _⟩
    · exact ⟨by rw [a1, a2] <;> rfl, by rw [a2]; first | omega | (dsimp only; omega)⟩
    · exact ⟨by rw [a1, a2] <;> rfl, by rw [a2]; first | omega | (dsimp only; omega)⟩
    · exact ⟨by rw [a1, a2] <;> rfl, by rw [a2]; first | omega | (dsimp only; omega)⟩
  exact hgo H2 locs2 ls _ _ ⟨u2.1, u2.2.1, u.2.1, u.2.2.1, u.2.2.2.1, u2.2.2, u.2.2.2.2, by rw [hTT.1]; exact hC1, hR2, hTT.2, hP, hD, hS, by omega, by omega⟩ (lv_sub hl [2, 3, 4, 5, 6] rfl)
set_option maxHeartbeats 4000000 in
set_option maxRecDepth 100000 in
/-- the law's case 34: cut -/
theorem lc_34 {p : Program} {e : Env} {s : State} {m : MethodId} {below : List Frame} {meth : Method} {c : Code} (l : Launch) (hst : l.stackTraces = false) {b Ls : Nat} {xs : Nat → Int32} (hLs : Ls ≤ 384) (C0 : lw_At p s m meth c b Ls xs) {A : Nat → Prop} (dC : Nat → ClassId) (dI : Nat → Nat → Nat) (kX : Nat → ClassId) (kT : Nat → ClassId) (kM : Nat → ClassId) (kV : Nat → ClassId) (kC : Nat → ClassId) (kN : Nat → ClassId) (kJ : Nat → ClassId) (kL : Nat → ClassId) (kF : Nat → ClassId) (kO : Nat → ClassId) (kQ : Nat → ClassId) (kG : Nat → ClassId) (kw : ClassId) (kv : Nat → ClassId) (kR : ClassId) (E0 : LwC dC dI kX kT kM kV kC kN kJ kL kF kO kQ kG kw kv kR A s) {h1 h2 o j : Nat} (hj : 6 * j + 6 ≤ Ls) {H : Heap} {locs : List Loc} {ls : Array Slot} {cells slots : Nat} (hI : LwI dC dI kX kT kM kV kC kN kJ kL kF kO kQ kG kw kv kR A s h1 h2 o j H locs) (hl : lv_has ls 7 [(4, .int (nI (6 * j))), (3, .ref o), (2, .ref h2), (1, .ref h1), (0, .ref b)])
    (hgo : ∀ (H : Heap) (locs : List Loc) (ls : Array Slot) (cells slots : Nat), LwI dC dI kX kT kM kV kC kN kJ kL kF kO kQ kG kw kv kR A s h1 h2 o (j + 1) H locs → lv_has ls 7 [(4, .int (nI (6 * j))), (3, .ref o), (2, .ref h2), (1, .ref h1), (0, .ref b)] → W p l e room_1 s m #[Value.ref b] below meth c H locs cells slots (lw_Z below #[Value.ref b] s) (F0 m 1507 ls [])) : W p l e room_1 s m #[Value.ref b] below meth c H locs cells slots (lw_Z below #[Value.ref b] s) (F0 m 1310 ls []) := by
  obtain ⟨hx, hb, hr, hml, hown, hts, hX, hbl, hlocks, hgv⟩ := id C0
  have hb : c.code = cL_law := hb
  have hown : s.vm.findClass RL = some m.cls := hown
  obtain ⟨hA, hA2, hE, hT9, hNc, hKC, hKV, hKR⟩ := E0
  have hbA : ¬ A b := fun h => absurd (hA2 b h) (Nat.not_le.mpr hbl)
  obtain ⟨T, th, Fc, Fs, w, v, g, hC, hR, hT, hP, hD, hS, hz, hn⟩ := hI
  have hbd := hC.bd
  refine W.tight (cells2 := Fc + 1000 * j + 125) (slots2 := Fs + 9000 * j + 181434) hz hn ?_
  refine lv_aload_n hx hb dL_law_1310 rfl (lv_at hl 3 rfl) ?_
  refine lw_arg hx hb hX hbl hbA hS (lv_at hl 4 rfl) (lv_at hl 0 rfl) 1 (by omega) hLs (by decide) dL_law_1311 dL_law_1312 dL_law_1314 dL_law_1315 dL_law_1316 ?_
  refine lw_arg hx hb hX hbl hbA hS (lv_at hl 4 rfl) (lv_at hl 0 rfl) 2 (by omega) hLs (by decide) dL_law_1317 dL_law_1318 dL_law_1320 dL_law_1321 dL_law_1322 ?_
  refine lv_aload_n hx hb dL_law_1323 rfl (lv_at hl 1 rfl) ?_
  refine lawH_i (y := yL_cut) (ws := wsH_cut) (mc := 12) (ms := 1478) (As := [.ref h1, .int (xs (6 * j + 1)), .int (xs (6 * j + 2)), .ref o]) (rest := []) ⟨hx, hb, hml, hown, hts⟩ (H_cut l hst dC dI kX kT kM kV kC kN kJ kL kF kO kQ kG kw h1 (((T.1 : Nat) : Int), T.2) Fc Fs w (xs (6 * j + 1)) (xs (6 * j + 2)) o kR g hC hR.val hR.rm H.size) (vx_cwSW 4 hts gl_H_cut rfl rfl rfl (by decide +kernel) ⟨Nat.le_of_ble_eq_true rfl, Nat.le_of_ble_eq_true rfl⟩) (hKR.app hKC) hE hNc hA hP hD hS rfl hl.1 (lv_room (Nat.le_of_ble_eq_true rfl)) dL_law_1324 ⟨show Fc + 1000 * j + 125 + 12 ≤ 327717 by omega, show Fs + 9000 * j + 181434 + 1478 ≤ 8118330 by omega⟩ (fun r1 u H1 locs1 hp hP hD hS hz1 hs1 => ?_)
  obtain ⟨hC1, hL1⟩ := hp
  refine W.tight (cells2 := u.2.1 + 1000 * (j + 1) + 125) (slots2 := u.2.2.1 + 9000 * (j + 1) + 181434) (by omega) (by omega) ?_
  have hbd1 := hC1.bd
  refine lv_istore hx hb dL_law_1327 hl (by decide) rfl (fun ls (hl : lv_has ls _ ([(5, .int r1), (4, .int (nI (6 * j))), (3, .ref o), (2, .ref h2), (1, .ref h1), (0, .ref b)])) => ?_)
  refine lv_aload_n hx hb dL_law_1329 rfl (lv_at hl 3 rfl) ?_
  refine lw_arg hx hb hX hbl hbA hS (lv_at hl 5 rfl) (lv_at hl 1 rfl) 1 (by omega) hLs (by decide) dL_law_1330 dL_law_1331 dL_law_1333 dL_law_1334 dL_law_1335 ?_
  refine lw_arg hx hb hX hbl hbA hS (lv_at hl 5 rfl) (lv_at hl 1 rfl) 2 (by omega) hLs (by decide) dL_law_1336 dL_law_1337 dL_law_1339 dL_law_1340 dL_law_1341 ?_
  refine lawR_i (y := yX12_cut) (ws := wsRX12_cut) (mc := 0) (ms := 0) (As := [.int (xs (6 * j + 1)), .int (xs (6 * j + 2))]) (rest := []) ⟨hx, hb, hml, hown, hts⟩ (R_cut l dC dI kv h2 T th v (xs (6 * j + 1)) (xs (6 * j + 2)) hR H1.size) (cwV 2 hts gl_R_cut rfl rfl rfl (by decide +kernel) ⟨Nat.le_of_ble_eq_true rfl, Nat.le_of_ble_eq_true rfl⟩) hR.recv hKV hT9 hA hP hD hS rfl hl.1 (lv_room (Nat.le_of_ble_eq_true rfl)) dL_law_1342 ⟨show u.2.1 + 1000 * (j + 1) + 125 + 0 ≤ 327717 by omega, show u.2.2.1 + 9000 * (j + 1) + 181434 + 0 ≤ 8118330 by omega⟩ (fun r2 u2 H2 locs2 hp2 hP hD hS => ?_)
  obtain ⟨hR2, hT2⟩ := hp2
  refine lv_istore hx hb dL_law_1345 hl (by decide) rfl (fun ls (hl : lv_has ls _ ([(6, .int r2), (5, .int r1), (4, .int (nI (6 * j))), (3, .ref o), (2, .ref h2), (1, .ref h1), (0, .ref b)])) => ?_)
  refine lv_goto (tgt := 1507) hx hb dL_law_1347 (by decide) ?_
  refine W.known (fun z1 z2 => ?_)
  have hTT : (((((u2.1.1 : Nat) : Int), u2.1.2) : LT) = u.1 ∧ u2.1.1 ≤ 20 * (j + 1)) := by
    rcases lw3c hL1 hT2 with ⟨⟨a1, _⟩, a2, _⟩ | ⟨⟨a1, _⟩, a2, _⟩ | ⟨_, ⟨a1, _⟩, a2, _⟩
    · exact ⟨by rw [a1, a2] <;> rfl, by rw [a2]; first | omega | (dsimp only; omega)⟩
    · exact ⟨by rw [a1, a2] <;> rfl, by rw [a2]; first | omega | (dsimp only; omega)⟩
    · exact ⟨by rw [a1, a2] <;> rfl, by rw [a2]; first | omega | (dsimp only; omega)⟩
  exact hgo H2 locs2 ls _ _ ⟨u2.1, u2.2.1, u.2.1, u.2.2.1, u.2.2.2.1, u2.2.2, u.2.2.2.2, by rw [hTT.1]; exact hC1, hR2, hTT.2, hP, hD, hS, by omega, by omega⟩ (lv_sub hl [2, 3, 4, 5, 6] rfl)
set_option maxHeartbeats 4000000 in
set_option maxRecDepth 100000 in
/-- the law's case 35: cheapest -/
theorem lc_35 {p : Program} {e : Env} {s : State} {m : MethodId} {below : List Frame} {meth : Method} {c : Code} (l : Launch) (hst : l.stackTraces = false) {b Ls : Nat} {xs : Nat → Int32} (hLs : Ls ≤ 384) (C0 : lw_At p s m meth c b Ls xs) {A : Nat → Prop} (dC : Nat → ClassId) (dI : Nat → Nat → Nat) (kX : Nat → ClassId) (kT : Nat → ClassId) (kM : Nat → ClassId) (kV : Nat → ClassId) (kC : Nat → ClassId) (kN : Nat → ClassId) (kJ : Nat → ClassId) (kL : Nat → ClassId) (kF : Nat → ClassId) (kO : Nat → ClassId) (kQ : Nat → ClassId) (kG : Nat → ClassId) (kw : ClassId) (kv : Nat → ClassId) (kR : ClassId) (E0 : LwC dC dI kX kT kM kV kC kN kJ kL kF kO kQ kG kw kv kR A s) {h1 h2 o j : Nat} (hj : 6 * j + 6 ≤ Ls) {H : Heap} {locs : List Loc} {ls : Array Slot} {cells slots : Nat} (hI : LwI dC dI kX kT kM kV kC kN kJ kL kF kO kQ kG kw kv kR A s h1 h2 o j H locs) (hl : lv_has ls 7 [(4, .int (nI (6 * j))), (3, .ref o), (2, .ref h2), (1, .ref h1), (0, .ref b)])
    (hgo : ∀ (H : Heap) (locs : List Loc) (ls : Array Slot) (cells slots : Nat), LwI dC dI kX kT kM kV kC kN kJ kL kF kO kQ kG kw kv kR A s h1 h2 o (j + 1) H locs → lv_has ls 7 [(4, .int (nI (6 * j))), (3, .ref o), (2, .ref h2), (1, .ref h1), (0, .ref b)] → W p l e room_1 s m #[Value.ref b] below meth c H locs cells slots (lw_Z below #[Value.ref b] s) (F0 m 1507 ls [])) : W p l e room_1 s m #[Value.ref b] below meth c H locs cells slots (lw_Z below #[Value.ref b] s) (F0 m 1350 ls []) := by
  obtain ⟨hx, hb, hr, hml, hown, hts, hX, hbl, hlocks, hgv⟩ := id C0
  have hb : c.code = cL_law := hb
  have hown : s.vm.findClass RL = some m.cls := hown
  obtain ⟨hA, hA2, hE, hT9, hNc, hKC, hKV, hKR⟩ := E0
  have hbA : ¬ A b := fun h => absurd (hA2 b h) (Nat.not_le.mpr hbl)
  obtain ⟨T, th, Fc, Fs, w, v, g, hC, hR, hT, hP, hD, hS, hz, hn⟩ := hI
  have hbd := hC.bd
  refine W.tight (cells2 := Fc + 1000 * j + 125) (slots2 := Fs + 9000 * j + 181434) hz hn ?_
  refine lv_aload_n hx hb dL_law_1350 rfl (lv_at hl 3 rfl) ?_
  refine lw_arg hx hb hX hbl hbA hS (lv_at hl 4 rfl) (lv_at hl 0 rfl) 1 (by omega) hLs (by decide) dL_law_1351 dL_law_1352 dL_law_1354 dL_law_1355 dL_law_1356 ?_
  refine lw_arg hx hb hX hbl hbA hS (lv_at hl 4 rfl) (lv_at hl 0 rfl) 2 (by omega) hLs (by decide) dL_law_1357 dL_law_1358 dL_law_1360 dL_law_1361 dL_law_1362 ?_
  refine lw_arg hx hb hX hbl hbA hS (lv_at hl 4 rfl) (lv_at hl 0 rfl) 3 (by omega) hLs (by decide) dL_law_1363 dL_law_1364 dL_law_1366 dL_law_1367 dL_law_1368 ?_
  refine lv_aload_n hx hb dL_law_1369 rfl (lv_at hl 1 rfl) ?_
  refine lawH_i (y := yL_cheapest) (ws := wsH_cheapest) (mc := 12) (ms := 1478) (As := [.ref h1, .int (xs (6 * j + 1)), .int (xs (6 * j + 2)), .int (xs (6 * j + 3)), .ref o]) (rest := []) ⟨hx, hb, hml, hown, hts⟩ (H_cheapest l hst dC dI kX kT kM kV kC kN kJ kL kF kO kQ kG kw h1 (((T.1 : Nat) : Int), T.2) Fc Fs w (xs (6 * j + 1)) (xs (6 * j + 2)) (xs (6 * j + 3)) o kR g hC hR.aro H.size) (vx_cwSW 5 hts gl_H_cheapest rfl rfl rfl (by decide +kernel) ⟨Nat.le_of_ble_eq_true rfl, Nat.le_of_ble_eq_true rfl⟩) (hKR.app hKC) hE hNc hA hP hD hS rfl hl.1 (lv_room (Nat.le_of_ble_eq_true rfl)) dL_law_1370 ⟨show Fc + 1000 * j + 125 + 12 ≤ 327717 by omega, show Fs + 9000 * j + 181434 + 1478 ≤ 8118330 by omega⟩ (fun r1 u H1 locs1 hp hP hD hS hz1 hs1 => ?_)
  obtain ⟨hC1, hL1⟩ := hp
  refine W.tight (cells2 := u.2.1 + 1000 * (j + 1) + 125) (slots2 := u.2.2.1 + 9000 * (j + 1) + 181434) (by omega) (by omega) ?_
  have hbd1 := hC1.bd
  refine lv_istore hx hb dL_law_1373 hl (by decide) rfl (fun ls (hl : lv_has ls _ ([(5, .int r1), (4, .int (nI (6 * j))), (3, .ref o), (2, .ref h2), (1, .ref h1), (0, .ref b)])) => ?_)
  refine lv_aload_n hx hb dL_law_1375 rfl (lv_at hl 3 rfl) ?_
  refine lw_arg hx hb hX hbl hbA hS (lv_at hl 5 rfl) (lv_at hl 1 rfl) 1 (by omega) hLs (by decide) dL_law_1376 dL_law_1377 dL_law_1379 dL_law_1380 dL_law_1381 ?_
  refine lw_arg hx hb hX hbl hbA hS (lv_at hl 5 rfl) (lv_at hl 1 rfl) 2 (by omega) hLs (by decide) dL_law_1382 dL_law_1383 dL_law_1385 dL_law_1386 dL_law_1387 ?_
  refine lw_arg hx hb hX hbl hbA hS (lv_at hl 5 rfl) (lv_at hl 1 rfl) 3 (by omega) hLs (by decide) dL_law_1388 dL_law_1389 dL_law_1391 dL_law_1392 dL_law_1393 ?_
  refine lawR_i (y := yX12_cheapest) (ws := wsRX12_cheapest) (mc := 0) (ms := 0) (As := [.int (xs (6 * j + 1)), .int (xs (6 * j + 2)), .int (xs (6 * j + 3))]) (rest := []) ⟨hx, hb, hml, hown, hts⟩ (R_cheapest l dC dI kv h2 T th v (xs (6 * j + 3)) (xs (6 * j + 1)) (xs (6 * j + 2)) hR H1.size) (cwV 3 hts gl_R_cheapest rfl rfl rfl (by decide +kernel) ⟨Nat.le_of_ble_eq_true rfl, Nat.le_of_ble_eq_true rfl⟩) hR.recv hKV hT9 hA hP hD hS rfl hl.1 (lv_room (Nat.le_of_ble_eq_true rfl)) dL_law_1394 ⟨show u.2.1 + 1000 * (j + 1) + 125 + 0 ≤ 327717 by omega, show u.2.2.1 + 9000 * (j + 1) + 181434 + 0 ≤ 8118330 by omega⟩ (fun r2 u2 H2 locs2 hp2 hP hD hS => ?_)
  obtain ⟨hR2, hT2⟩ := hp2
  refine lv_istore hx hb dL_law_1397 hl (by decide) rfl (fun ls (hl : lv_has ls _ ([(6, .int r2), (5, .int r1), (4, .int (nI (6 * j))), (3, .ref o), (2, .ref h2), (1, .ref h1), (0, .ref b)])) => ?_)
  refine lv_goto (tgt := 1507) hx hb dL_law_1399 (by decide) ?_
  refine W.known (fun z1 z2 => ?_)
  have hTT : (((((u2.1.1 : Nat) : Int), u2.1.2) : LT) = u.1 ∧ u2.1.1 ≤ 20 * (j + 1)) := by
    rcases lw3c hL1 hT2 with ⟨⟨a1, _⟩, a2, _⟩ | ⟨⟨a1, _⟩, a2, _⟩ | ⟨_, ⟨a1, _⟩, a2, _⟩
    · exact ⟨by rw [a1, a2] <;> rfl, by rw [a2]; first | omega | (dsimp only; omega)⟩
    · exact ⟨by rw [a1, a2] <;> rfl, by rw [a2]; first | omega | (dsimp only; omega)⟩
    · exact ⟨by rw [a1, a2] <;> rfl, by rw [a2]; first | omega | (dsimp only; omega)⟩
  exact hgo H2 locs2 ls _ _ ⟨u2.1, u2.2.1, u.2.1, u.2.2.1, u.2.2.2.1, u2.2.2, u.2.2.2.2, by rw [hTT.1]; exact hC1, hR2, hTT.2, hP, hD, hS, by omega, by omega⟩ (lv_sub hl [2, 3, 4, 5, 6] rfl)
set_option maxHeartbeats 4000000 in
set_option maxRecDepth 100000 in
/-- the law's case 36: path -/
theorem lc_36 {p : Program} {e : Env} {s : State} {m : MethodId} {below : List Frame} {meth : Method} {c : Code} (l : Launch) (hst : l.stackTraces = false) {b Ls : Nat} {xs : Nat → Int32} (hLs : Ls ≤ 384) (C0 : lw_At p s m meth c b Ls xs) {A : Nat → Prop} (dC : Nat → ClassId) (dI : Nat → Nat → Nat) (kX : Nat → ClassId) (kT : Nat → ClassId) (kM : Nat → ClassId) (kV : Nat → ClassId) (kC : Nat → ClassId) (kN : Nat → ClassId) (kJ : Nat → ClassId) (kL : Nat → ClassId) (kF : Nat → ClassId) (kO : Nat → ClassId) (kQ : Nat → ClassId) (kG : Nat → ClassId) (kw : ClassId) (kv : Nat → ClassId) (kR : ClassId) (E0 : LwC dC dI kX kT kM kV kC kN kJ kL kF kO kQ kG kw kv kR A s) {h1 h2 o j : Nat} (hj : 6 * j + 6 ≤ Ls) {H : Heap} {locs : List Loc} {ls : Array Slot} {cells slots : Nat} (hI : LwI dC dI kX kT kM kV kC kN kJ kL kF kO kQ kG kw kv kR A s h1 h2 o j H locs) (hl : lv_has ls 7 [(4, .int (nI (6 * j))), (3, .ref o), (2, .ref h2), (1, .ref h1), (0, .ref b)])
    (hgo : ∀ (H : Heap) (locs : List Loc) (ls : Array Slot) (cells slots : Nat), LwI dC dI kX kT kM kV kC kN kJ kL kF kO kQ kG kw kv kR A s h1 h2 o (j + 1) H locs → lv_has ls 7 [(4, .int (nI (6 * j))), (3, .ref o), (2, .ref h2), (1, .ref h1), (0, .ref b)] → W p l e room_1 s m #[Value.ref b] below meth c H locs cells slots (lw_Z below #[Value.ref b] s) (F0 m 1507 ls [])) : W p l e room_1 s m #[Value.ref b] below meth c H locs cells slots (lw_Z below #[Value.ref b] s) (F0 m 1402 ls []) := by
  obtain ⟨hx, hb, hr, hml, hown, hts, hX, hbl, hlocks, hgv⟩ := id C0
  have hb : c.code = cL_law := hb
  have hown : s.vm.findClass RL = some m.cls := hown
  obtain ⟨hA, hA2, hE, hT9, hNc, hKC, hKV, hKR⟩ := E0
  have hbA : ¬ A b := fun h => absurd (hA2 b h) (Nat.not_le.mpr hbl)
  obtain ⟨T, th, Fc, Fs, w, v, g, hC, hR, hT, hP, hD, hS, hz, hn⟩ := hI
  have hbd := hC.bd
  refine W.tight (cells2 := Fc + 1000 * j + 125) (slots2 := Fs + 9000 * j + 181434) hz hn ?_
  refine lv_aload_n hx hb dL_law_1402 rfl (lv_at hl 3 rfl) ?_
  refine lw_arg hx hb hX hbl hbA hS (lv_at hl 4 rfl) (lv_at hl 0 rfl) 1 (by omega) hLs (by decide) dL_law_1403 dL_law_1404 dL_law_1406 dL_law_1407 dL_law_1408 ?_
  refine lw_arg hx hb hX hbl hbA hS (lv_at hl 4 rfl) (lv_at hl 0 rfl) 2 (by omega) hLs (by decide) dL_law_1409 dL_law_1410 dL_law_1412 dL_law_1413 dL_law_1414 ?_
  refine lw_arg hx hb hX hbl hbA hS (lv_at hl 4 rfl) (lv_at hl 0 rfl) 3 (by omega) hLs (by decide) dL_law_1415 dL_law_1416 dL_law_1418 dL_law_1419 dL_law_1420 ?_
  refine lv_aload_n hx hb dL_law_1421 rfl (lv_at hl 1 rfl) ?_
  refine lawH_i (y := yL_path) (ws := wsH_path) (mc := 12) (ms := 1478) (As := [.ref h1, .int (xs (6 * j + 1)), .int (xs (6 * j + 2)), .int (xs (6 * j + 3)), .ref o]) (rest := []) ⟨hx, hb, hml, hown, hts⟩ (H_path l hst dC dI kX kT kM kV kC kN kJ kL kF kO kQ kG kw h1 (((T.1 : Nat) : Int), T.2) Fc Fs w (xs (6 * j + 1)) (xs (6 * j + 2)) (xs (6 * j + 3)) o kR g hC hR.val H.size) (vx_cwSW 5 hts gl_H_path rfl rfl rfl (by decide +kernel) ⟨Nat.le_of_ble_eq_true rfl, Nat.le_of_ble_eq_true rfl⟩) (hKR.app hKC) hE hNc hA hP hD hS rfl hl.1 (lv_room (Nat.le_of_ble_eq_true rfl)) dL_law_1422 ⟨show Fc + 1000 * j + 125 + 12 ≤ 327717 by omega, show Fs + 9000 * j + 181434 + 1478 ≤ 8118330 by omega⟩ (fun r1 u H1 locs1 hp hP hD hS hz1 hs1 => ?_)
  obtain ⟨hC1, hL1⟩ := hp
  refine W.tight (cells2 := u.2.1 + 1000 * (j + 1) + 125) (slots2 := u.2.2.1 + 9000 * (j + 1) + 181434) (by omega) (by omega) ?_
  have hbd1 := hC1.bd
  refine lv_istore hx hb dL_law_1425 hl (by decide) rfl (fun ls (hl : lv_has ls _ ([(5, .int r1), (4, .int (nI (6 * j))), (3, .ref o), (2, .ref h2), (1, .ref h1), (0, .ref b)])) => ?_)
  refine lv_aload_n hx hb dL_law_1427 rfl (lv_at hl 3 rfl) ?_
  refine lw_arg hx hb hX hbl hbA hS (lv_at hl 5 rfl) (lv_at hl 1 rfl) 1 (by omega) hLs (by decide) dL_law_1428 dL_law_1429 dL_law_1431 dL_law_1432 dL_law_1433 ?_
  refine lw_arg hx hb hX hbl hbA hS (lv_at hl 5 rfl) (lv_at hl 1 rfl) 2 (by omega) hLs (by decide) dL_law_1434 dL_law_1435 dL_law_1437 dL_law_1438 dL_law_1439 ?_
  refine lw_arg hx hb hX hbl hbA hS (lv_at hl 5 rfl) (lv_at hl 1 rfl) 3 (by omega) hLs (by decide) dL_law_1440 dL_law_1441 dL_law_1443 dL_law_1444 dL_law_1445 ?_
  refine lawR_i (y := yX12_path) (ws := wsRX12_path) (mc := 0) (ms := 0) (As := [.int (xs (6 * j + 1)), .int (xs (6 * j + 2)), .int (xs (6 * j + 3))]) (rest := []) ⟨hx, hb, hml, hown, hts⟩ (R_path l dC dI kv h2 T th v (xs (6 * j + 1)) (xs (6 * j + 2)) (xs (6 * j + 3)) hR H1.size) (cwV 3 hts gl_R_path rfl rfl rfl (by decide +kernel) ⟨Nat.le_of_ble_eq_true rfl, Nat.le_of_ble_eq_true rfl⟩) hR.recv hKV hT9 hA hP hD hS rfl hl.1 (lv_room (Nat.le_of_ble_eq_true rfl)) dL_law_1446 ⟨show u.2.1 + 1000 * (j + 1) + 125 + 0 ≤ 327717 by omega, show u.2.2.1 + 9000 * (j + 1) + 181434 + 0 ≤ 8118330 by omega⟩ (fun r2 u2 H2 locs2 hp2 hP hD hS => ?_)
  obtain ⟨hR2, hT2⟩ := hp2
  refine lv_istore hx hb dL_law_1449 hl (by decide) rfl (fun ls (hl : lv_has ls _ ([(6, .int r2), (5, .int r1), (4, .int (nI (6 * j))), (3, .ref o), (2, .ref h2), (1, .ref h1), (0, .ref b)])) => ?_)
  refine lv_goto (tgt := 1507) hx hb dL_law_1451 (by decide) ?_
  refine W.known (fun z1 z2 => ?_)
  have hTT : (((((u2.1.1 : Nat) : Int), u2.1.2) : LT) = u.1 ∧ u2.1.1 ≤ 20 * (j + 1)) := by
    rcases lw3c hL1 hT2 with ⟨⟨a1, _⟩, a2, _⟩ | ⟨⟨a1, _⟩, a2, _⟩ | ⟨_, ⟨a1, _⟩, a2, _⟩
    · exact ⟨by rw [a1, a2] <;> rfl, by rw [a2]; first | omega | (dsimp only; omega)⟩
    · exact ⟨by rw [a1, a2] <;> rfl, by rw [a2]; first | omega | (dsimp only; omega)⟩
    · exact ⟨by rw [a1, a2] <;> rfl, by rw [a2]; first | omega | (dsimp only; omega)⟩
  exact hgo H2 locs2 ls _ _ ⟨u2.1, u2.2.1, u.2.1, u.2.2.1, u.2.2.2.1, u2.2.2, u.2.2.2.2, by rw [hTT.1]; exact hC1, hR2, hTT.2, hP, hD, hS, by omega, by omega⟩ (lv_sub hl [2, 3, 4, 5, 6] rfl)
set_option maxHeartbeats 4000000 in
set_option maxRecDepth 100000 in
/-- the law's case 37: tree -/
theorem lc_37 {p : Program} {e : Env} {s : State} {m : MethodId} {below : List Frame} {meth : Method} {c : Code} (l : Launch) (hst : l.stackTraces = false) {b Ls : Nat} {xs : Nat → Int32} (hLs : Ls ≤ 384) (C0 : lw_At p s m meth c b Ls xs) {A : Nat → Prop} (dC : Nat → ClassId) (dI : Nat → Nat → Nat) (kX : Nat → ClassId) (kT : Nat → ClassId) (kM : Nat → ClassId) (kV : Nat → ClassId) (kC : Nat → ClassId) (kN : Nat → ClassId) (kJ : Nat → ClassId) (kL : Nat → ClassId) (kF : Nat → ClassId) (kO : Nat → ClassId) (kQ : Nat → ClassId) (kG : Nat → ClassId) (kw : ClassId) (kv : Nat → ClassId) (kR : ClassId) (E0 : LwC dC dI kX kT kM kV kC kN kJ kL kF kO kQ kG kw kv kR A s) {h1 h2 o j : Nat} (hj : 6 * j + 6 ≤ Ls) {H : Heap} {locs : List Loc} {ls : Array Slot} {cells slots : Nat} (hI : LwI dC dI kX kT kM kV kC kN kJ kL kF kO kQ kG kw kv kR A s h1 h2 o j H locs) (hl : lv_has ls 7 [(4, .int (nI (6 * j))), (3, .ref o), (2, .ref h2), (1, .ref h1), (0, .ref b)])
    (hgo : ∀ (H : Heap) (locs : List Loc) (ls : Array Slot) (cells slots : Nat), LwI dC dI kX kT kM kV kC kN kJ kL kF kO kQ kG kw kv kR A s h1 h2 o (j + 1) H locs → lv_has ls 7 [(4, .int (nI (6 * j))), (3, .ref o), (2, .ref h2), (1, .ref h1), (0, .ref b)] → W p l e room_1 s m #[Value.ref b] below meth c H locs cells slots (lw_Z below #[Value.ref b] s) (F0 m 1507 ls [])) : W p l e room_1 s m #[Value.ref b] below meth c H locs cells slots (lw_Z below #[Value.ref b] s) (F0 m 1454 ls []) := by
  obtain ⟨hx, hb, hr, hml, hown, hts, hX, hbl, hlocks, hgv⟩ := id C0
  have hb : c.code = cL_law := hb
  have hown : s.vm.findClass RL = some m.cls := hown
  obtain ⟨hA, hA2, hE, hT9, hNc, hKC, hKV, hKR⟩ := E0
  have hbA : ¬ A b := fun h => absurd (hA2 b h) (Nat.not_le.mpr hbl)
  obtain ⟨T, th, Fc, Fs, w, v, g, hC, hR, hT, hP, hD, hS, hz, hn⟩ := hI
  have hbd := hC.bd
  refine W.tight (cells2 := Fc + 1000 * j + 125) (slots2 := Fs + 9000 * j + 181434) hz hn ?_
  refine lv_aload_n hx hb dL_law_1454 rfl (lv_at hl 3 rfl) ?_
  refine lawC_l (y := yX11_tree) (ws := wsU_tree) (mc := 12) (ms := 1478) (As := []) (rest := []) ⟨hx, hb, hml, hown, hts⟩ (U_tree l hst dC dI kX kT kM kV kC kN kJ kL kF kO kQ kG kw h1 (((T.1 : Nat) : Int), T.2) Fc Fs w hC hR.val H.size) (cwV 0 hts gl_C_tree rfl rfl rfl (by decide +kernel) ⟨Nat.le_of_ble_eq_true rfl, Nat.le_of_ble_eq_true rfl⟩) hC.recv hKC hE hA hP hD hS rfl hl.1 (lv_room (Nat.le_of_ble_eq_true rfl)) dL_law_1455 ⟨show Fc + 1000 * j + 125 + 12 ≤ 327717 by omega, show Fs + 9000 * j + 181434 + 1478 ≤ 8118330 by omega⟩ (fun r1 u H1 locs1 hp hP hD hS hz1 hs1 => ?_)
  obtain ⟨hC1, hL1⟩ := hp
  refine W.tight (cells2 := u.2.1 + 1000 * (j + 1) + 125) (slots2 := u.2.2.1 + 9000 * (j + 1) + 181434) (by omega) (by omega) ?_
  have hbd1 := hC1.bd
  refine lv_pop2_2 hx hb dL_law_1458 rfl ?_
  refine lv_aload_n hx hb dL_law_1459 rfl (lv_at hl 2 rfl) ?_
  refine lawR_l (y := yX12_tree) (ws := wsRX12_tree) (mc := 0) (ms := 0) (As := []) (rest := []) ⟨hx, hb, hml, hown, hts⟩ (R_tree l dC dI kv h2 T th v hR H1.size) (cwV 0 hts gl_R_tree rfl rfl rfl (by decide +kernel) ⟨Nat.le_of_ble_eq_true rfl, Nat.le_of_ble_eq_true rfl⟩) hR.recv hKV hT9 hA hP hD hS rfl hl.1 (lv_room (Nat.le_of_ble_eq_true rfl)) dL_law_1460 ⟨show u.2.1 + 1000 * (j + 1) + 125 + 0 ≤ 327717 by omega, show u.2.2.1 + 9000 * (j + 1) + 181434 + 0 ≤ 8118330 by omega⟩ (fun r2 u2 H2 locs2 hp2 hP hD hS => ?_)
  obtain ⟨hR2, hT2⟩ := hp2
  refine lv_pop2_2 hx hb dL_law_1463 rfl ?_
  refine lv_goto (tgt := 1507) hx hb dL_law_1464 (by decide) ?_
  refine W.known (fun z1 z2 => ?_)
  have hL0 := hL1.1
  have hT0 := hT2.1
  have hTT : (((((u2.1.1 : Nat) : Int), u2.1.2) : LT) = u.1 ∧ u2.1.1 ≤ 20 * (j + 1)) := ⟨by rw [hL0, hT0] <;> rfl, by rw [hT0]; first | omega | (dsimp only; omega)⟩
  exact hgo H2 locs2 ls _ _ ⟨u2.1, u2.2.1, u.2.1, u.2.2.1, u.2.2.2, u2.2.2, g, by rw [hTT.1]; exact hC1, hR2, hTT.2, hP, hD, hS, by omega, by omega⟩ (lv_sub hl [0, 1, 2, 3, 4] rfl)
set_option maxHeartbeats 4000000 in
set_option maxRecDepth 100000 in
/-- the law's case 38: tour -/
theorem lc_38 {p : Program} {e : Env} {s : State} {m : MethodId} {below : List Frame} {meth : Method} {c : Code} (l : Launch) (hst : l.stackTraces = false) {b Ls : Nat} {xs : Nat → Int32} (hLs : Ls ≤ 384) (C0 : lw_At p s m meth c b Ls xs) {A : Nat → Prop} (dC : Nat → ClassId) (dI : Nat → Nat → Nat) (kX : Nat → ClassId) (kT : Nat → ClassId) (kM : Nat → ClassId) (kV : Nat → ClassId) (kC : Nat → ClassId) (kN : Nat → ClassId) (kJ : Nat → ClassId) (kL : Nat → ClassId) (kF : Nat → ClassId) (kO : Nat → ClassId) (kQ : Nat → ClassId) (kG : Nat → ClassId) (kw : ClassId) (kv : Nat → ClassId) (kR : ClassId) (E0 : LwC dC dI kX kT kM kV kC kN kJ kL kF kO kQ kG kw kv kR A s) {h1 h2 o j : Nat} (hj : 6 * j + 6 ≤ Ls) {H : Heap} {locs : List Loc} {ls : Array Slot} {cells slots : Nat} (hI : LwI dC dI kX kT kM kV kC kN kJ kL kF kO kQ kG kw kv kR A s h1 h2 o j H locs) (hl : lv_has ls 7 [(4, .int (nI (6 * j))), (3, .ref o), (2, .ref h2), (1, .ref h1), (0, .ref b)])
    (hgo : ∀ (H : Heap) (locs : List Loc) (ls : Array Slot) (cells slots : Nat), LwI dC dI kX kT kM kV kC kN kJ kL kF kO kQ kG kw kv kR A s h1 h2 o (j + 1) H locs → lv_has ls 7 [(4, .int (nI (6 * j))), (3, .ref o), (2, .ref h2), (1, .ref h1), (0, .ref b)] → W p l e room_1 s m #[Value.ref b] below meth c H locs cells slots (lw_Z below #[Value.ref b] s) (F0 m 1507 ls [])) : W p l e room_1 s m #[Value.ref b] below meth c H locs cells slots (lw_Z below #[Value.ref b] s) (F0 m 1467 ls []) := by
  obtain ⟨hx, hb, hr, hml, hown, hts, hX, hbl, hlocks, hgv⟩ := id C0
  have hb : c.code = cL_law := hb
  have hown : s.vm.findClass RL = some m.cls := hown
  obtain ⟨hA, hA2, hE, hT9, hNc, hKC, hKV, hKR⟩ := E0
  have hbA : ¬ A b := fun h => absurd (hA2 b h) (Nat.not_le.mpr hbl)
  obtain ⟨T, th, Fc, Fs, w, v, g, hC, hR, hT, hP, hD, hS, hz, hn⟩ := hI
  have hbd := hC.bd
  refine W.tight (cells2 := Fc + 1000 * j + 125) (slots2 := Fs + 9000 * j + 181434) hz hn ?_
  refine lv_aload_n hx hb dL_law_1467 rfl (lv_at hl 3 rfl) ?_
  refine lw_arg hx hb hX hbl hbA hS (lv_at hl 4 rfl) (lv_at hl 0 rfl) 1 (by omega) hLs (by decide) dL_law_1468 dL_law_1469 dL_law_1471 dL_law_1472 dL_law_1473 ?_
  refine lw_arg hx hb hX hbl hbA hS (lv_at hl 4 rfl) (lv_at hl 0 rfl) 2 (by omega) hLs (by decide) dL_law_1474 dL_law_1475 dL_law_1477 dL_law_1478 dL_law_1479 ?_
  refine lv_aload_n hx hb dL_law_1480 rfl (lv_at hl 1 rfl) ?_
  refine lawH_i (y := yL_tour) (ws := wsH_tour) (mc := 13) (ms := 1484) (As := [.ref h1, .int (xs (6 * j + 1)), .int (xs (6 * j + 2)), .ref o]) (rest := []) ⟨hx, hb, hml, hown, hts⟩ (H_tour l hst dC dI kX kT kM kV kC kN kJ kL kF kO kQ kG kw h1 (((T.1 : Nat) : Int), T.2) Fc Fs w (xs (6 * j + 1)) (xs (6 * j + 2)) o kR g hC hR.val H.size) (vx_cwSW 4 hts gl_H_tour rfl rfl rfl (by decide +kernel) ⟨Nat.le_of_ble_eq_true rfl, Nat.le_of_ble_eq_true rfl⟩) (hKR.app hKC) hE hNc hA hP hD hS rfl hl.1 (lv_room (Nat.le_of_ble_eq_true rfl)) dL_law_1481 ⟨show Fc + 1000 * j + 125 + 13 ≤ 327717 by omega, show Fs + 9000 * j + 181434 + 1484 ≤ 8118330 by omega⟩ (fun r1 u H1 locs1 hp hP hD hS hz1 hs1 => ?_)
  obtain ⟨hC1, hL1⟩ := hp
  refine W.tight (cells2 := u.2.1 + 1000 * (j + 1) + 125) (slots2 := u.2.2.1 + 9000 * (j + 1) + 181434) (by omega) (by omega) ?_
  have hbd1 := hC1.bd
  refine lv_istore hx hb dL_law_1484 hl (by decide) rfl (fun ls (hl : lv_has ls _ ([(5, .int r1), (4, .int (nI (6 * j))), (3, .ref o), (2, .ref h2), (1, .ref h1), (0, .ref b)])) => ?_)
  refine lv_aload_n hx hb dL_law_1486 rfl (lv_at hl 3 rfl) ?_
  refine lw_arg hx hb hX hbl hbA hS (lv_at hl 5 rfl) (lv_at hl 1 rfl) 1 (by omega) hLs (by decide) dL_law_1487 dL_law_1488 dL_law_1490 dL_law_1491 dL_law_1492 ?_
  refine lw_arg hx hb hX hbl hbA hS (lv_at hl 5 rfl) (lv_at hl 1 rfl) 2 (by omega) hLs (by decide) dL_law_1493 dL_law_1494 dL_law_1496 dL_law_1497 dL_law_1498 ?_
  refine lawR_i (y := yX12_tour) (ws := wsRX12_tour) (mc := 0) (ms := 0) (As := [.int (xs (6 * j + 1)), .int (xs (6 * j + 2))]) (rest := []) ⟨hx, hb, hml, hown, hts⟩ (R_tour l dC dI kv h2 T th v (xs (6 * j + 1)) (xs (6 * j + 2)) hR H1.size) (cwV 2 hts gl_R_tour rfl rfl rfl (by decide +kernel) ⟨Nat.le_of_ble_eq_true rfl, Nat.le_of_ble_eq_true rfl⟩) hR.recv hKV hT9 hA hP hD hS rfl hl.1 (lv_room (Nat.le_of_ble_eq_true rfl)) dL_law_1499 ⟨show u.2.1 + 1000 * (j + 1) + 125 + 0 ≤ 327717 by omega, show u.2.2.1 + 9000 * (j + 1) + 181434 + 0 ≤ 8118330 by omega⟩ (fun r2 u2 H2 locs2 hp2 hP hD hS => ?_)
  obtain ⟨hR2, hT2⟩ := hp2
  refine lv_istore hx hb dL_law_1502 hl (by decide) rfl (fun ls (hl : lv_has ls _ ([(6, .int r2), (5, .int r1), (4, .int (nI (6 * j))), (3, .ref o), (2, .ref h2), (1, .ref h1), (0, .ref b)])) => ?_)
  refine lv_goto (tgt := 1507) hx hb dL_law_1504 (by decide) ?_
  refine W.known (fun z1 z2 => ?_)
  have hTT : (((((u2.1.1 : Nat) : Int), u2.1.2) : LT) = u.1 ∧ u2.1.1 ≤ 20 * (j + 1)) := by
    rcases lw3c hL1 hT2 with ⟨⟨a1, _⟩, a2, _⟩ | ⟨⟨a1, _⟩, a2, _⟩ | ⟨_, ⟨a1, _⟩, a2, _⟩
    · exact ⟨by rw [a1, a2] <;> rfl, by rw [a2]; first | omega | (dsimp only; omega)⟩
    · exact ⟨by rw [a1, a2] <;> rfl, by rw [a2]; first | omega | (dsimp only; omega)⟩
    · exact ⟨by rw [a1, a2] <;> rfl, by rw [a2]; first | omega | (dsimp only; omega)⟩
  exact hgo H2 locs2 ls _ _ ⟨u2.1, u2.2.1, u.2.1, u.2.2.1, u.2.2.2.1, u2.2.2, u.2.2.2.2, by rw [hTT.1]; exact hC1, hR2, hTT.2, hP, hD, hS, by omega, by omega⟩ (lv_sub hl [2, 3, 4, 5, 6] rfl)
end
section
theorem dL_law_23 : decode cL_law 23 = .ok (.iload 4, 2) := dk_21 (by decide +kernel)
theorem dL_law_25 : decode cL_law 25 = .ok (.aload_n 0, 1) := dk_42 (by decide +kernel)
theorem dL_law_26 : decode cL_law 26 = .ok (.arraylength, 1) := dk_190 (by decide +kernel)
theorem dL_law_27 : decode cL_law 27 = .ok (.bipush 6, 2) := dk_16 (by decide +kernel)
theorem dL_law_29 : decode cL_law 29 = .ok (.isub, 1) := dk_100 (by decide +kernel)
theorem dL_law_30 : decode cL_law 30 = .ok (.if_icmp .gt 1483, 3) := dk_163 (by decide +kernel)
theorem dL_law_1513 : decode cL_law 1513 = .ok (.iconst 1, 1) := dk_4 (by decide +kernel)
theorem dL_law_1514 : decode cL_law 1514 = .ok (.ireturn, 1) := dk_172 (by decide +kernel)
theorem dL_law_1507 : decode cL_law 1507 = .ok (.iinc 4 6, 3) := dk_132 (by decide +kernel)
theorem dL_law_1510 : decode cL_law 1510 = .ok (.goto (-1487), 3) := dk_167 (by decide +kernel)
theorem dL_law_33 : decode cL_law 33 = .ok (.aload_n 0, 1) := dk_42 (by decide +kernel)
theorem dL_law_34 : decode cL_law 34 = .ok (.iload 4, 2) := dk_21 (by decide +kernel)
theorem dL_law_36 : decode cL_law 36 = .ok (.iaload, 1) := dk_46 (by decide +kernel)
theorem dL_law_37 : decode cL_law 37 = .ok (.bipush 63, 2) := dk_16 (by decide +kernel)
theorem dL_law_39 : decode cL_law 39 = .ok (.iand, 1) := dk_126 (by decide +kernel)
theorem dL_law_40 : decode cL_law 40 = .ok (.tableswitch 1467 0 38 #[172, 243, 268, 279, 295, 320, 360, 412, 480, 496, 540, 568, 596, 624, 640, 680, 696, 733, 761, 786, 811, 839, 903, 940, 965, 978, 1015, 1052, 1063, 1115, 1128, 1153, 1217, 1230, 1270, 1310, 1362, 1414, 1427], 172) := by decide +kernel
set_option maxHeartbeats 4000000 in
set_option maxRecDepth 100000 in
theorem lw_step {p : Program} {e : Env} {s : State} {m : MethodId} {below : List Frame} {meth : Method} {c : Code} (l : Launch) (hst : l.stackTraces = false) {b Ls : Nat} {xs : Nat → Int32} (hLs : Ls ≤ 384) (C0 : lw_At p s m meth c b Ls xs) {A : Nat → Prop} (dC : Nat → ClassId) (dI : Nat → Nat → Nat) (kX : Nat → ClassId) (kT : Nat → ClassId) (kM : Nat → ClassId) (kV : Nat → ClassId) (kC : Nat → ClassId) (kN : Nat → ClassId) (kJ : Nat → ClassId) (kL : Nat → ClassId) (kF : Nat → ClassId) (kO : Nat → ClassId) (kQ : Nat → ClassId) (kG : Nat → ClassId) (kw : ClassId) (kv : Nat → ClassId) (kR : ClassId) (E0 : LwC dC dI kX kT kM kV kC kN kJ kL kF kO kQ kG kw kv kR A s) {h1 h2 o : Nat} {j : Nat} {H : Heap} {locs : List Loc} {ls : Array Slot} {cells slots : Nat} (hj0 : 6 * j ≤ Ls) (hI : LwI dC dI kX kT kM kV kC kN kJ kL kF kO kQ kG kw kv kR A s h1 h2 o j H locs) (hl : lv_has ls 7 [(4, .int (nI (6 * j))), (3, .ref o), (2, .ref h2), (1, .ref h1), (0, .ref b)]) (hgo : 6 * j + 6 ≤ Ls → ∀ (H : Heap) (locs : List Loc) (ls : Array Slot) (cells slots : Nat), LwI dC dI kX kT kM kV kC kN kJ kL kF kO kQ kG kw kv kR A s h1 h2 o (j + 1) H locs → lv_has ls 7 [(4, .int (nI (6 * (j + 1)))), (3, .ref o), (2, .ref h2), (1, .ref h1), (0, .ref b)] → W p l e room_1 s m #[Value.ref b] below meth c H locs cells slots (lw_Z below #[Value.ref b] s) (F0 m 23 ls [])) : W p l e room_1 s m #[Value.ref b] below meth c H locs cells slots (lw_Z below #[Value.ref b] s) (F0 m 23 ls []) := by
  obtain ⟨hx, hb, hr, hml, hown, hts, hX, hbl, hlocks, hgv⟩ := id C0
  have hb : c.code = cL_law := hb
  have hA2 := E0.2.1
  have hbA : ¬ A b := fun h => absurd (hA2 b h) (Nat.not_le.mpr hbl)
  obtain ⟨T, th, Fc, Fs, w, v, g, hC, hR, hT, hP, hD, hS, hz, hn⟩ := id hI
  have hbd := hC.bd
  refine lv_iload hx hb dL_law_23 (lv_at hl 0 rfl) ?_
  refine lv_aload_n hx hb dL_law_25 rfl (lv_at hl 4 rfl) ?_
  refine va_slen hx hb hX hbl hbA hS dL_law_26 ?_
  refine lv_bipush (v := 6) hx hb dL_law_27 (by decide) ?_
  refine lv_isub hx hb dL_law_29 ?_
  have e1 : (Int32.ofNat Ls - 6).toInt = (Ls : Int) - 6 := by
    rw [iI_sub2 (iI_nat Ls) (show (6 : Int32) = iI 6 by decide)]
    exact iI_t (by omega) (by omega)
  have e2 : (nI (6 * j)).toInt = ((6 * j : Nat) : Int) := nI_toInt (by omega)
  refine lv_icmp_gt (tgt := 1513) hx hb dL_law_30 (by decide) (fun c9 => ?_) (fun c9 => ?_)
  · refine W.tight (cells2 := 327717) (slots2 := 8118330) (by omega) (by omega) ?_
    refine lv_iconst (v := 1) hx hb dL_law_1513 (by decide) ?_
    refine va_forget (fun q hq => hA2 _ (hS.2.2 q hq)) ?_
    exact lw_ret hx hb hr hlocks dL_law_1514
  · have t9 := toI_nlt c9 e1 e2
    have hj : 6 * j + 6 ≤ Ls := by omega
    have hgo2 : ∀ (H : Heap) (locs : List Loc) (ls : Array Slot) (cells slots : Nat), LwI dC dI kX kT kM kV kC kN kJ kL kF kO kQ kG kw kv kR A s h1 h2 o (j + 1) H locs → lv_has ls 7 [(4, .int (nI (6 * j))), (3, .ref o), (2, .ref h2), (1, .ref h1), (0, .ref b)] → W p l e room_1 s m #[Value.ref b] below meth c H locs cells slots (lw_Z below #[Value.ref b] s) (F0 m 1507 ls []) := by
      intro H locs ls cells slots hI hl
      refine lv_iinc (v := nI (6 * (j + 1))) hx hb dL_law_1507 hl (k := 0) rfl (by rw [show Int32.ofInt 6 = nI 6 by decide, nI_add, show 6 * j + 6 = 6 * (j + 1) by omega]) (by decide) rfl (fun ls (hl : lv_has ls _ ([(4, .int (nI (6 * (j + 1)))), (3, .ref o), (2, .ref h2), (1, .ref h1), (0, .ref b)])) => ?_)
      refine lv_goto (tgt := 23) hx hb dL_law_1510 (by decide) ?_
      exact hgo hj H locs ls cells slots hI hl
    refine lv_aload_n hx hb dL_law_33 rfl (lv_at hl 4 rfl) ?_
    refine lv_iload hx hb dL_law_34 (lv_at hl 0 rfl) ?_
    have e8 : (nI (6 * j)).toNatClampNeg = 6 * j := nI_clamp (by omega)
    refine va_sld hx hb hX hbl hbA hS (i := nI (6 * j)) ?_ dL_law_36 ?_
    · rintro (h | h)
      · exact absurd (toI_lt h e2 (show (0 : Int32).toInt = 0 by decide)) (by omega)
      · rw [e8] at h; omega
    rw [e8]
    refine lv_bipush (v := 63) hx hb dL_law_37 (by decide) ?_
    refine lv_iand hx hb dL_law_39 ?_
    refine lv_topi (fun x9 hx9 => ?_)
    by_cases s_0 : x9 = 0
    · refine lv_tableIn (off := 172) (tgt := 212) hx hb dL_law_40 (by rw [s_0]; decide) (by rw [s_0]; decide) (by rw [s_0]; decide) (by decide) ?_
      exact lc_0 l hst hLs C0 dC dI kX kT kM kV kC kN kJ kL kF kO kQ kG kw kv kR E0 hj hI hl hgo2
    by_cases s_1 : x9 = 1
    · refine lv_tableIn (off := 243) (tgt := 283) hx hb dL_law_40 (by rw [s_1]; decide) (by rw [s_1]; decide) (by rw [s_1]; decide) (by decide) ?_
      exact lc_1 l hst hLs C0 dC dI kX kT kM kV kC kN kJ kL kF kO kQ kG kw kv kR E0 hj hI hl hgo2
    by_cases s_2 : x9 = 2
    · refine lv_tableIn (off := 268) (tgt := 308) hx hb dL_law_40 (by rw [s_2]; decide) (by rw [s_2]; decide) (by rw [s_2]; decide) (by decide) ?_
      exact lc_2 l hst hLs C0 dC dI kX kT kM kV kC kN kJ kL kF kO kQ kG kw kv kR E0 hj hI hl hgo2
    by_cases s_3 : x9 = 3
    · refine lv_tableIn (off := 279) (tgt := 319) hx hb dL_law_40 (by rw [s_3]; decide) (by rw [s_3]; decide) (by rw [s_3]; decide) (by decide) ?_
      exact lc_3 l hst hLs C0 dC dI kX kT kM kV kC kN kJ kL kF kO kQ kG kw kv kR E0 hj hI hl hgo2
    by_cases s_4 : x9 = 4
    · refine lv_tableIn (off := 295) (tgt := 335) hx hb dL_law_40 (by rw [s_4]; decide) (by rw [s_4]; decide) (by rw [s_4]; decide) (by decide) ?_
      exact lc_4 l hst hLs C0 dC dI kX kT kM kV kC kN kJ kL kF kO kQ kG kw kv kR E0 hj hI hl hgo2
    by_cases s_5 : x9 = 5
    · refine lv_tableIn (off := 320) (tgt := 360) hx hb dL_law_40 (by rw [s_5]; decide) (by rw [s_5]; decide) (by rw [s_5]; decide) (by decide) ?_
      exact lc_5 l hst hLs C0 dC dI kX kT kM kV kC kN kJ kL kF kO kQ kG kw kv kR E0 hj hI hl hgo2
    by_cases s_6 : x9 = 6
    · refine lv_tableIn (off := 360) (tgt := 400) hx hb dL_law_40 (by rw [s_6]; decide) (by rw [s_6]; decide) (by rw [s_6]; decide) (by decide) ?_
      exact lc_6 l hst hLs C0 dC dI kX kT kM kV kC kN kJ kL kF kO kQ kG kw kv kR E0 hj hI hl hgo2
    by_cases s_7 : x9 = 7
    · refine lv_tableIn (off := 412) (tgt := 452) hx hb dL_law_40 (by rw [s_7]; decide) (by rw [s_7]; decide) (by rw [s_7]; decide) (by decide) ?_
      exact lc_7 l hst hLs C0 dC dI kX kT kM kV kC kN kJ kL kF kO kQ kG kw kv kR E0 hj hI hl hgo2
    by_cases s_8 : x9 = 8
    · refine lv_tableIn (off := 480) (tgt := 520) hx hb dL_law_40 (by rw [s_8]; decide) (by rw [s_8]; decide) (by rw [s_8]; decide) (by decide) ?_
      exact lc_8 l hst hLs C0 dC dI kX kT kM kV kC kN kJ kL kF kO kQ kG kw kv kR E0 hj hI hl hgo2
    by_cases s_9 : x9 = 9
    · refine lv_tableIn (off := 496) (tgt := 536) hx hb dL_law_40 (by rw [s_9]; decide) (by rw [s_9]; decide) (by rw [s_9]; decide) (by decide) ?_
      exact lc_9 l hst hLs C0 dC dI kX kT kM kV kC kN kJ kL kF kO kQ kG kw kv kR E0 hj hI hl hgo2
    by_cases s_10 : x9 = 10
    · refine lv_tableIn (off := 540) (tgt := 580) hx hb dL_law_40 (by rw [s_10]; decide) (by rw [s_10]; decide) (by rw [s_10]; decide) (by decide) ?_
      exact lc_10 l hst hLs C0 dC dI kX kT kM kV kC kN kJ kL kF kO kQ kG kw kv kR E0 hj hI hl hgo2
    by_cases s_11 : x9 = 11
    · refine lv_tableIn (off := 568) (tgt := 608) hx hb dL_law_40 (by rw [s_11]; decide) (by rw [s_11]; decide) (by rw [s_11]; decide) (by decide) ?_
      exact lc_11 l hst hLs C0 dC dI kX kT kM kV kC kN kJ kL kF kO kQ kG kw kv kR E0 hj hI hl hgo2
    by_cases s_12 : x9 = 12
    · refine lv_tableIn (off := 596) (tgt := 636) hx hb dL_law_40 (by rw [s_12]; decide) (by rw [s_12]; decide) (by rw [s_12]; decide) (by decide) ?_
      exact lc_12 l hst hLs C0 dC dI kX kT kM kV kC kN kJ kL kF kO kQ kG kw kv kR E0 hj hI hl hgo2
    by_cases s_13 : x9 = 13
    · refine lv_tableIn (off := 624) (tgt := 664) hx hb dL_law_40 (by rw [s_13]; decide) (by rw [s_13]; decide) (by rw [s_13]; decide) (by decide) ?_
      exact lc_13 l hst hLs C0 dC dI kX kT kM kV kC kN kJ kL kF kO kQ kG kw kv kR E0 hj hI hl hgo2
    by_cases s_14 : x9 = 14
    · refine lv_tableIn (off := 640) (tgt := 680) hx hb dL_law_40 (by rw [s_14]; decide) (by rw [s_14]; decide) (by rw [s_14]; decide) (by decide) ?_
      exact lc_14 l hst hLs C0 dC dI kX kT kM kV kC kN kJ kL kF kO kQ kG kw kv kR E0 hj hI hl hgo2
    by_cases s_15 : x9 = 15
    · refine lv_tableIn (off := 680) (tgt := 720) hx hb dL_law_40 (by rw [s_15]; decide) (by rw [s_15]; decide) (by rw [s_15]; decide) (by decide) ?_
      exact lc_15 l hst hLs C0 dC dI kX kT kM kV kC kN kJ kL kF kO kQ kG kw kv kR E0 hj hI hl hgo2
    by_cases s_16 : x9 = 16
    · refine lv_tableIn (off := 696) (tgt := 736) hx hb dL_law_40 (by rw [s_16]; decide) (by rw [s_16]; decide) (by rw [s_16]; decide) (by decide) ?_
      exact lc_16 l hst hLs C0 dC dI kX kT kM kV kC kN kJ kL kF kO kQ kG kw kv kR E0 hj hI hl hgo2
    by_cases s_17 : x9 = 17
    · refine lv_tableIn (off := 733) (tgt := 773) hx hb dL_law_40 (by rw [s_17]; decide) (by rw [s_17]; decide) (by rw [s_17]; decide) (by decide) ?_
      exact lc_17 l hst hLs C0 dC dI kX kT kM kV kC kN kJ kL kF kO kQ kG kw kv kR E0 hj hI hl hgo2
    by_cases s_18 : x9 = 18
    · refine lv_tableIn (off := 761) (tgt := 801) hx hb dL_law_40 (by rw [s_18]; decide) (by rw [s_18]; decide) (by rw [s_18]; decide) (by decide) ?_
      exact lc_18 l hst hLs C0 dC dI kX kT kM kV kC kN kJ kL kF kO kQ kG kw kv kR E0 hj hI hl hgo2
    by_cases s_19 : x9 = 19
    · refine lv_tableIn (off := 786) (tgt := 826) hx hb dL_law_40 (by rw [s_19]; decide) (by rw [s_19]; decide) (by rw [s_19]; decide) (by decide) ?_
      exact lc_19 l hst hLs C0 dC dI kX kT kM kV kC kN kJ kL kF kO kQ kG kw kv kR E0 hj hI hl hgo2
    by_cases s_20 : x9 = 20
    · refine lv_tableIn (off := 811) (tgt := 851) hx hb dL_law_40 (by rw [s_20]; decide) (by rw [s_20]; decide) (by rw [s_20]; decide) (by decide) ?_
      exact lc_20 l hst hLs C0 dC dI kX kT kM kV kC kN kJ kL kF kO kQ kG kw kv kR E0 hj hI hl hgo2
    by_cases s_21 : x9 = 21
    · refine lv_tableIn (off := 839) (tgt := 879) hx hb dL_law_40 (by rw [s_21]; decide) (by rw [s_21]; decide) (by rw [s_21]; decide) (by decide) ?_
      exact lc_21 l hst hLs C0 dC dI kX kT kM kV kC kN kJ kL kF kO kQ kG kw kv kR E0 hj hI hl hgo2
    by_cases s_22 : x9 = 22
    · refine lv_tableIn (off := 903) (tgt := 943) hx hb dL_law_40 (by rw [s_22]; decide) (by rw [s_22]; decide) (by rw [s_22]; decide) (by decide) ?_
      exact lc_22 l hst hLs C0 dC dI kX kT kM kV kC kN kJ kL kF kO kQ kG kw kv kR E0 hj hI hl hgo2
    by_cases s_23 : x9 = 23
    · refine lv_tableIn (off := 940) (tgt := 980) hx hb dL_law_40 (by rw [s_23]; decide) (by rw [s_23]; decide) (by rw [s_23]; decide) (by decide) ?_
      exact lc_23 l hst hLs C0 dC dI kX kT kM kV kC kN kJ kL kF kO kQ kG kw kv kR E0 hj hI hl hgo2
    by_cases s_24 : x9 = 24
    · refine lv_tableIn (off := 965) (tgt := 1005) hx hb dL_law_40 (by rw [s_24]; decide) (by rw [s_24]; decide) (by rw [s_24]; decide) (by decide) ?_
      exact lc_24 l hst hLs C0 dC dI kX kT kM kV kC kN kJ kL kF kO kQ kG kw kv kR E0 hj hI hl hgo2
    by_cases s_25 : x9 = 25
    · refine lv_tableIn (off := 978) (tgt := 1018) hx hb dL_law_40 (by rw [s_25]; decide) (by rw [s_25]; decide) (by rw [s_25]; decide) (by decide) ?_
      exact lc_25 l hst hLs C0 dC dI kX kT kM kV kC kN kJ kL kF kO kQ kG kw kv kR E0 hj hI hl hgo2
    by_cases s_26 : x9 = 26
    · refine lv_tableIn (off := 1015) (tgt := 1055) hx hb dL_law_40 (by rw [s_26]; decide) (by rw [s_26]; decide) (by rw [s_26]; decide) (by decide) ?_
      exact lc_26 l hst hLs C0 dC dI kX kT kM kV kC kN kJ kL kF kO kQ kG kw kv kR E0 hj hI hl hgo2
    by_cases s_27 : x9 = 27
    · refine lv_tableIn (off := 1052) (tgt := 1092) hx hb dL_law_40 (by rw [s_27]; decide) (by rw [s_27]; decide) (by rw [s_27]; decide) (by decide) ?_
      exact lc_27 l hst hLs C0 dC dI kX kT kM kV kC kN kJ kL kF kO kQ kG kw kv kR E0 hj hI hl hgo2
    by_cases s_28 : x9 = 28
    · refine lv_tableIn (off := 1063) (tgt := 1103) hx hb dL_law_40 (by rw [s_28]; decide) (by rw [s_28]; decide) (by rw [s_28]; decide) (by decide) ?_
      exact lc_28 l hst hLs C0 dC dI kX kT kM kV kC kN kJ kL kF kO kQ kG kw kv kR E0 hj hI hl hgo2
    by_cases s_29 : x9 = 29
    · refine lv_tableIn (off := 1115) (tgt := 1155) hx hb dL_law_40 (by rw [s_29]; decide) (by rw [s_29]; decide) (by rw [s_29]; decide) (by decide) ?_
      exact lc_29 l hst hLs C0 dC dI kX kT kM kV kC kN kJ kL kF kO kQ kG kw kv kR E0 hj hI hl hgo2
    by_cases s_30 : x9 = 30
    · refine lv_tableIn (off := 1128) (tgt := 1168) hx hb dL_law_40 (by rw [s_30]; decide) (by rw [s_30]; decide) (by rw [s_30]; decide) (by decide) ?_
      exact lc_30 l hst hLs C0 dC dI kX kT kM kV kC kN kJ kL kF kO kQ kG kw kv kR E0 hj hI hl hgo2
    by_cases s_31 : x9 = 31
    · refine lv_tableIn (off := 1153) (tgt := 1193) hx hb dL_law_40 (by rw [s_31]; decide) (by rw [s_31]; decide) (by rw [s_31]; decide) (by decide) ?_
      exact lc_31 l hst hLs C0 dC dI kX kT kM kV kC kN kJ kL kF kO kQ kG kw kv kR E0 hj hI hl hgo2
    by_cases s_32 : x9 = 32
    · refine lv_tableIn (off := 1217) (tgt := 1257) hx hb dL_law_40 (by rw [s_32]; decide) (by rw [s_32]; decide) (by rw [s_32]; decide) (by decide) ?_
      exact lc_32 l hst hLs C0 dC dI kX kT kM kV kC kN kJ kL kF kO kQ kG kw kv kR E0 hj hI hl hgo2
    by_cases s_33 : x9 = 33
    · refine lv_tableIn (off := 1230) (tgt := 1270) hx hb dL_law_40 (by rw [s_33]; decide) (by rw [s_33]; decide) (by rw [s_33]; decide) (by decide) ?_
      exact lc_33 l hst hLs C0 dC dI kX kT kM kV kC kN kJ kL kF kO kQ kG kw kv kR E0 hj hI hl hgo2
    by_cases s_34 : x9 = 34
    · refine lv_tableIn (off := 1270) (tgt := 1310) hx hb dL_law_40 (by rw [s_34]; decide) (by rw [s_34]; decide) (by rw [s_34]; decide) (by decide) ?_
      exact lc_34 l hst hLs C0 dC dI kX kT kM kV kC kN kJ kL kF kO kQ kG kw kv kR E0 hj hI hl hgo2
    by_cases s_35 : x9 = 35
    · refine lv_tableIn (off := 1310) (tgt := 1350) hx hb dL_law_40 (by rw [s_35]; decide) (by rw [s_35]; decide) (by rw [s_35]; decide) (by decide) ?_
      exact lc_35 l hst hLs C0 dC dI kX kT kM kV kC kN kJ kL kF kO kQ kG kw kv kR E0 hj hI hl hgo2
    by_cases s_36 : x9 = 36
    · refine lv_tableIn (off := 1362) (tgt := 1402) hx hb dL_law_40 (by rw [s_36]; decide) (by rw [s_36]; decide) (by rw [s_36]; decide) (by decide) ?_
      exact lc_36 l hst hLs C0 dC dI kX kT kM kV kC kN kJ kL kF kO kQ kG kw kv kR E0 hj hI hl hgo2
    by_cases s_37 : x9 = 37
    · refine lv_tableIn (off := 1414) (tgt := 1454) hx hb dL_law_40 (by rw [s_37]; decide) (by rw [s_37]; decide) (by rw [s_37]; decide) (by decide) ?_
      exact lc_37 l hst hLs C0 dC dI kX kT kM kV kC kN kJ kL kF kO kQ kG kw kv kR E0 hj hI hl hgo2
    by_cases s_38 : x9 = 38
    · refine lv_tableIn (off := 1427) (tgt := 1467) hx hb dL_law_40 (by rw [s_38]; decide) (by rw [s_38]; decide) (by rw [s_38]; decide) (by decide) ?_
      exact lc_38 l hst hLs C0 dC dI kX kT kM kV kC kN kJ kL kF kO kQ kG kw kv kR E0 hj hI hl hgo2
    refine lv_tableOut (tgt := 1507) hx hb dL_law_40 (by have := lv_neT s_0 (show Int32.toInt 0 = 0 by decide); have := lv_neT s_1 (show Int32.toInt 1 = 1 by decide); have := lv_neT s_2 (show Int32.toInt 2 = 2 by decide); have := lv_neT s_3 (show Int32.toInt 3 = 3 by decide); have := lv_neT s_4 (show Int32.toInt 4 = 4 by decide); have := lv_neT s_5 (show Int32.toInt 5 = 5 by decide); have := lv_neT s_6 (show Int32.toInt 6 = 6 by decide); have := lv_neT s_7 (show Int32.toInt 7 = 7 by decide); have := lv_neT s_8 (show Int32.toInt 8 = 8 by decide); have := lv_neT s_9 (show Int32.toInt 9 = 9 by decide); have := lv_neT s_10 (show Int32.toInt 10 = 10 by decide); have := lv_neT s_11 (show Int32.toInt 11 = 11 by decide); have := lv_neT s_12 (show Int32.toInt 12 = 12 by decide); have := lv_neT s_13 (show Int32.toInt 13 = 13 by decide); have := lv_neT s_14 (show Int32.toInt 14 = 14 by decide); have := lv_neT s_15 (show Int32.toInt 15 = 15 by decide); have := lv_neT s_16 (show Int32.toInt 16 = 16 by decide); have := lv_neT s_17 (show Int32.toInt 17 = 17 by decide); have := lv_neT s_18 (show Int32.toInt 18 = 18 by decide); have := lv_neT s_19 (show Int32.toInt 19 = 19 by decide); have := lv_neT s_20 (show Int32.toInt 20 = 20 by decide); have := lv_neT s_21 (show Int32.toInt 21 = 21 by decide); have := lv_neT s_22 (show Int32.toInt 22 = 22 by decide); have := lv_neT s_23 (show Int32.toInt 23 = 23 by decide); have := lv_neT s_24 (show Int32.toInt 24 = 24 by decide); have := lv_neT s_25 (show Int32.toInt 25 = 25 by decide); have := lv_neT s_26 (show Int32.toInt 26 = 26 by decide); have := lv_neT s_27 (show Int32.toInt 27 = 27 by decide); have := lv_neT s_28 (show Int32.toInt 28 = 28 by decide); have := lv_neT s_29 (show Int32.toInt 29 = 29 by decide); have := lv_neT s_30 (show Int32.toInt 30 = 30 by decide); have := lv_neT s_31 (show Int32.toInt 31 = 31 by decide); have := lv_neT s_32 (show Int32.toInt 32 = 32 by decide); have := lv_neT s_33 (show Int32.toInt 33 = 33 by decide); have := lv_neT s_34 (show Int32.toInt 34 = 34 by decide); have := lv_neT s_35 (show Int32.toInt 35 = 35 by decide); have := lv_neT s_36 (show Int32.toInt 36 = 36 by decide); have := lv_neT s_37 (show Int32.toInt 37 = 37 by decide); have := lv_neT s_38 (show Int32.toInt 38 = 38 by decide); omega) (by decide) ?_
    exact hgo2 H locs ls _ _ ⟨T, th, Fc, Fs, w, v, g, hC, hR, by omega, hP, hD, hS, by omega, by omega⟩ hl
theorem lw_loop {p : Program} {e : Env} {s : State} {m : MethodId} {below : List Frame} {meth : Method} {c : Code} (l : Launch) (hst : l.stackTraces = false) {b Ls : Nat} {xs : Nat → Int32} (hLs : Ls ≤ 384) (C0 : lw_At p s m meth c b Ls xs) {A : Nat → Prop} (dC : Nat → ClassId) (dI : Nat → Nat → Nat) (kX : Nat → ClassId) (kT : Nat → ClassId) (kM : Nat → ClassId) (kV : Nat → ClassId) (kC : Nat → ClassId) (kN : Nat → ClassId) (kJ : Nat → ClassId) (kL : Nat → ClassId) (kF : Nat → ClassId) (kO : Nat → ClassId) (kQ : Nat → ClassId) (kG : Nat → ClassId) (kw : ClassId) (kv : Nat → ClassId) (kR : ClassId) (E0 : LwC dC dI kX kT kM kV kC kN kJ kL kF kO kQ kG kw kv kR A s) {h1 h2 o : Nat} : ∀ (n j : Nat) (H : Heap) (locs : List Loc) (ls : Array Slot) (cells slots : Nat), Ls ≤ 6 * j + n → 6 * j ≤ Ls → LwI dC dI kX kT kM kV kC kN kJ kL kF kO kQ kG kw kv kR A s h1 h2 o j H locs → lv_has ls 7 [(4, .int (nI (6 * j))), (3, .ref o), (2, .ref h2), (1, .ref h1), (0, .ref b)] → W p l e room_1 s m #[Value.ref b] below meth c H locs cells slots (lw_Z below #[Value.ref b] s) (F0 m 23 ls []) := by
  intro n
  induction n with
  | zero =>
    intro j H locs ls cells slots h0 h1 hI hl
    exact lw_step l hst hLs C0 dC dI kX kT kM kV kC kN kJ kL kF kO kQ kG kw kv kR E0 h1 hI hl (fun h9 => absurd h9 (by omega))
  | succ n ih =>
    intro j H locs ls cells slots h0 h1 hI hl
    exact lw_step l hst hLs C0 dC dI kX kT kM kV kC kN kJ kL kF kO kQ kG kw kv kR E0 h1 hI hl (fun h9 H locs ls cells slots hI hl => ih (j + 1) H locs ls cells slots (by omega) (by omega) hI hl)
end
section
/-- what the Statement gives of a text -/
def SL (own : String) (k n : Nat) (f : Nat → Int32) : List Cond := [.exactly (.string own k) "java/lang/String", .eq (.field (.string own k) "java/lang/String" "coder" "B") (.int 0), .arrayOf (.field (.string own k) "java/lang/String" "value" "[B") .byte, .eq (.length (.field (.string own k) "java/lang/String" "value" "[B")) (.int (Int32.ofNat n))] ++ (List.range n).map (fun j => .eq (.elem (.field (.string own k) "java/lang/String" "value" "[B") (.int (Int32.ofNat j))) (.int (f j)))
theorem str_of {args : Array Value} {s : State} {own tx : String} {k n : Nat} {f : Nat → Int32} {A : Nat → Prop} (hJ : JdkE A s s.heap) (hN : n < 2 ^ 31) (hr : (Cond.stringRef own k tx).before args s = true) (hs : ∀ c ∈ SL own k n f, c.before args s = true) (hA : ∀ a : Nat, a < s.heap.size → ¬ A a) : ∃ q, vk_R own k tx q s ∧ StrE q n f A s s.heap := by
  have hex := hs (.exactly (.string own k) "java/lang/String") (List.mem_append_left _ (List.mem_of_getElem? (i := 0) rfl))
  have hco := hs (.eq (.field (.string own k) "java/lang/String" "coder" "B") (.int 0)) (List.mem_append_left _ (List.mem_of_getElem? (i := 1) rfl))
  have har := hs (.arrayOf (.field (.string own k) "java/lang/String" "value" "[B") .byte) (List.mem_append_left _ (List.mem_of_getElem? (i := 2) rfl))
  have hle := hs (.eq (.length (.field (.string own k) "java/lang/String" "value" "[B")) (.int (Int32.ofNat n))) (List.mem_append_left _ (List.mem_of_getElem? (i := 3) rfl))
  have hel : ∀ j : Nat, j < n → (Cond.eq (.elem (.field (.string own k) "java/lang/String" "value" "[B") (.int (Int32.ofNat j))) (.int (f j))).before args s = true := fun j hj => hs _ (List.mem_append_right _ (List.mem_map.mpr ⟨j, List.mem_range.mpr hj, rfl⟩))
  obtain ⟨a, c, cA, kA, q1, q2, q3, q4, q5, q6, -⟩ := Cond.exactly_spec (args := args) (first := s) (o := none) (s := s) (idx := []) (t := .string own k) (cls := "java/lang/String") hex
  obtain ⟨t, ht, hT⟩ := va_Tof (f := fun j => .int (f j)) (A := A) hN har (va_eqt hle) (fun j hj => va_eqt (hel j hj)) hA
  exact ⟨a, vk_R.of hr q1, hJ, ⟨cA, q3, q5, by rw [q6]; exact q2, hA a (Array.getElem?_eq_some_iff.mp q3).1⟩, vk_OFof q1 (va_eqt hco) hA, t, vk_OFof q1 ht hA, hT⟩
set_option maxRecDepth 100000 in
theorem sl_ref : ∀ w ∈ sTab.map (fun x => Cond.stringRef x.1 x.2.1 x.2.2.1), w ∈ lw_tbl := mem_p _ [(6, 196), (6, 216), (6, 217), (6, 218), (6, 219), (6, 224), (6, 225), (6, 226), (7, 3), (7, 4), (7, 5), (7, 6), (6, 235), (6, 236), (7, 1), (7, 2), (7, 11), (7, 12), (7, 17), (7, 18), (7, 19), (7, 20), (4, 109), (4, 166)] (by decide +kernel)
theorem mem_f (ws : List Cond) (ps : List Nat) (hp : ws = ps.filterMap (fun i => (flatC (Jvm.Cond.and given_1 narrow_1))[i]?)) : ∀ w ∈ ws, w ∈ flatC (Jvm.Cond.and given_1 narrow_1) := by
  intro w h
  rw [hp] at h
  obtain ⟨q, -, hq⟩ := List.mem_filterMap.mp h
  exact List.mem_of_getElem? hq
set_option maxRecDepth 100000 in
theorem sl_277 : ∀ c ∈ SL RX11 277 5 (fun j => ([118, 97, 114, 32, 120] : List Int32).getD j 0), c ∈ flatC (Jvm.Cond.and given_1 narrow_1) := mem_f _ [151, 152, 153, 154, 155, 156, 157, 158, 159] (by decide +kernel)
set_option maxRecDepth 100000 in
theorem sl_286 : ∀ c ∈ SL RX11 286 6 (fun j => ([32, 119, 104, 111, 108, 101] : List Int32).getD j 0), c ∈ flatC (Jvm.Cond.and given_1 narrow_1) := mem_f _ [160, 161, 162, 163, 164, 165, 166, 167, 168, 169] (by decide +kernel)
set_option maxRecDepth 100000 in
theorem sl_288 : ∀ c ∈ SL RX11 288 6 (fun j => ([32, 102, 114, 111, 109, 32] : List Int32).getD j 0), c ∈ flatC (Jvm.Cond.and given_1 narrow_1) := mem_f _ [170, 171, 172, 173, 174, 175, 176, 177, 178, 179] (by decide +kernel)
set_option maxRecDepth 100000 in
theorem sl_290 : ∀ c ∈ SL RX11 290 4 (fun j => ([32, 116, 111, 32] : List Int32).getD j 0), c ∈ flatC (Jvm.Cond.and given_1 narrow_1) := mem_f _ [180, 181, 182, 183, 184, 185, 186, 187] (by decide +kernel)
set_option maxRecDepth 100000 in
theorem sl_292 : ∀ c ∈ SL RX11 292 3 (fun j => ([32, 59, 10] : List Int32).getD j 0), c ∈ flatC (Jvm.Cond.and given_1 narrow_1) := mem_f _ [188, 189, 190, 191, 192, 193, 194] (by decide +kernel)
set_option maxRecDepth 100000 in
theorem sl_294 : ∀ c ∈ SL RX11 294 5 (fun j => ([114, 111, 119, 32, 114] : List Int32).getD j 0), c ∈ flatC (Jvm.Cond.and given_1 narrow_1) := mem_f _ [195, 196, 197, 198, 199, 200, 201, 202, 203] (by decide +kernel)
set_option maxRecDepth 100000 in
theorem sl_296 : ∀ c ∈ SL RX11 296 2 (fun j => ([32, 58] : List Int32).getD j 0), c ∈ flatC (Jvm.Cond.and given_1 narrow_1) := mem_f _ [204, 205, 206, 207, 208, 209] (by decide +kernel)
set_option maxRecDepth 100000 in
theorem sl_298 : ∀ c ∈ SL RX11 298 3 (fun j => ([32, 111, 114] : List Int32).getD j 0), c ∈ flatC (Jvm.Cond.and given_1 narrow_1) := mem_f _ [210, 211, 212, 213, 214, 215, 216] (by decide +kernel)
set_option maxRecDepth 100000 in
theorem sl_307 : ∀ c ∈ SL RX11 307 2 (fun j => ([32, 48] : List Int32).getD j 0), c ∈ flatC (Jvm.Cond.and given_1 narrow_1) := mem_f _ [241, 242, 243, 244, 245, 246] (by decide +kernel)
set_option maxRecDepth 100000 in
theorem sl_309 : ∀ c ∈ SL RX11 309 4 (fun j => ([32, 60, 61, 32] : List Int32).getD j 0), c ∈ flatC (Jvm.Cond.and given_1 narrow_1) := mem_f _ [247, 248, 249, 250, 251, 252, 253, 254] (by decide +kernel)
set_option maxRecDepth 100000 in
theorem sl_311 : ∀ c ∈ SL RX11 311 4 (fun j => ([32, 62, 61, 32] : List Int32).getD j 0), c ∈ flatC (Jvm.Cond.and given_1 narrow_1) := mem_f _ [255, 256, 257, 258, 259, 260, 261, 262] (by decide +kernel)
set_option maxRecDepth 100000 in
theorem sl_313 : ∀ c ∈ SL RX11 313 3 (fun j => ([32, 61, 32] : List Int32).getD j 0), c ∈ flatC (Jvm.Cond.and given_1 narrow_1) := mem_f _ [263, 264, 265, 266, 267, 268, 269] (by decide +kernel)
set_option maxRecDepth 100000 in
theorem sl_315 : ∀ c ∈ SL RX11 315 2 (fun j => ([32, 45] : List Int32).getD j 0), c ∈ flatC (Jvm.Cond.and given_1 narrow_1) := mem_f _ [217, 218, 219, 220, 221, 222] (by decide +kernel)
set_option maxRecDepth 100000 in
theorem sl_317 : ∀ c ∈ SL RX11 317 2 (fun j => ([32, 43] : List Int32).getD j 0), c ∈ flatC (Jvm.Cond.and given_1 narrow_1) := mem_f _ [223, 224, 225, 226, 227, 228] (by decide +kernel)
set_option maxRecDepth 100000 in
theorem sl_322 : ∀ c ∈ SL RX11 322 2 (fun j => ([32, 42] : List Int32).getD j 0), c ∈ flatC (Jvm.Cond.and given_1 narrow_1) := mem_f _ [229, 230, 231, 232, 233, 234] (by decide +kernel)
set_option maxRecDepth 100000 in
theorem sl_324 : ∀ c ∈ SL RX11 324 2 (fun j => ([32, 120] : List Int32).getD j 0), c ∈ flatC (Jvm.Cond.and given_1 narrow_1) := mem_f _ [235, 236, 237, 238, 239, 240] (by decide +kernel)
set_option maxRecDepth 100000 in
theorem sl_326 : ∀ c ∈ SL RX11 326 9 (fun j => ([100, 105, 102, 102, 101, 114, 101, 110, 116] : List Int32).getD j 0), c ∈ flatC (Jvm.Cond.and given_1 narrow_1) := mem_f _ [270, 271, 272, 273, 274, 275, 276, 277, 278, 279, 280, 281, 282] (by decide +kernel)
set_option maxRecDepth 100000 in
theorem sl_327 : ∀ c ∈ SL RX11 327 4 (fun j => ([32, 44, 32, 120] : List Int32).getD j 0), c ∈ flatC (Jvm.Cond.and given_1 narrow_1) := mem_f _ [283, 284, 285, 286, 287, 288, 289, 290] (by decide +kernel)
set_option maxRecDepth 100000 in
theorem sl_329 : ∀ c ∈ SL RX11 329 3 (fun j => ([109, 97, 120] : List Int32).getD j 0), c ∈ flatC (Jvm.Cond.and given_1 narrow_1) := mem_f _ [291, 292, 293, 294, 295, 296, 297] (by decide +kernel)
set_option maxRecDepth 100000 in
theorem sl_331 : ∀ c ∈ SL RX11 331 3 (fun j => ([109, 105, 110] : List Int32).getD j 0), c ∈ flatC (Jvm.Cond.and given_1 narrow_1) := mem_f _ [298, 299, 300, 301, 302, 303, 304] (by decide +kernel)
set_option maxRecDepth 100000 in
theorem sl_333 : ∀ c ∈ SL RX11 333 3 (fun j => ([32, 45, 32] : List Int32).getD j 0), c ∈ flatC (Jvm.Cond.and given_1 narrow_1) := mem_f _ [305, 306, 307, 308, 309, 310, 311] (by decide +kernel)
set_option maxRecDepth 100000 in
theorem sl_335 : ∀ c ∈ SL RX11 335 3 (fun j => ([32, 43, 32] : List Int32).getD j 0), c ∈ flatC (Jvm.Cond.and given_1 narrow_1) := mem_f _ [312, 313, 314, 315, 316, 317, 318] (by decide +kernel)
set_option maxRecDepth 100000 in
theorem sl_70 : ∀ c ∈ SL RX9 70 71 (fun j => ([115, 101, 116, 32, 112, 97, 114, 97, 109, 32, 118, 97, 114, 32, 119, 104, 111, 108, 101, 32, 102, 114, 111, 109, 32, 116, 111, 32, 114, 111, 119, 32, 111, 114, 32, 105, 102, 32, 97, 110, 100, 32, 110, 111, 116, 32, 105, 110, 32, 115, 117, 109, 32, 100, 105, 102, 102, 101, 114, 101, 110, 116, 32, 109, 105, 110, 32, 109, 97, 120, 32] : List Int32).getD j 0), c ∈ flatC (Jvm.Cond.and given_1 narrow_1) := mem_f _ [56, 57, 58, 59, 60, 61, 62, 63, 64, 65, 66, 67, 68, 69, 70, 71, 72, 73, 74, 75, 76, 77, 78, 79, 80, 81, 82, 83, 84, 85, 86, 87, 88, 89, 90, 91, 92, 93, 94, 95, 96, 97, 98, 99, 100, 101, 102, 103, 104, 105, 106, 107, 108, 109, 110, 111, 112, 113, 114, 115, 116, 117, 118, 119, 120, 121, 122, 123, 124, 125, 126, 127, 128, 129, 130] (by decide +kernel)
set_option maxRecDepth 100000 in
theorem sl_84 : ∀ c ∈ SL RX9 84 16 (fun j => ([61, 60, 62, 58, 59, 44, 91, 93, 123, 125, 40, 41, 43, 45, 42, 47] : List Int32).getD j 0), c ∈ flatC (Jvm.Cond.and given_1 narrow_1) := mem_f _ [131, 132, 133, 134, 135, 136, 137, 138, 139, 140, 141, 142, 143, 144, 145, 146, 147, 148, 149, 150] (by decide +kernel)
set_option maxRecDepth 100000 in
theorem sl_cls : ∀ x ∈ sTab, (∀ c ∈ SL x.1 x.2.1 x.2.2.2.length (fun j => x.2.2.2.getD j 0), c ∈ flatC (Jvm.Cond.and given_1 narrow_1)) ∧ x.2.2.2.length < 2 ^ 31 := by
  unfold sTab
  exact (List.forall_mem_cons.mpr ⟨⟨sl_277, by decide⟩, (List.forall_mem_cons.mpr ⟨⟨sl_286, by decide⟩, (List.forall_mem_cons.mpr ⟨⟨sl_288, by decide⟩, (List.forall_mem_cons.mpr ⟨⟨sl_290, by decide⟩, (List.forall_mem_cons.mpr ⟨⟨sl_292, by decide⟩, (List.forall_mem_cons.mpr ⟨⟨sl_294, by decide⟩, (List.forall_mem_cons.mpr ⟨⟨sl_296, by decide⟩, (List.forall_mem_cons.mpr ⟨⟨sl_298, by decide⟩, (List.forall_mem_cons.mpr ⟨⟨sl_307, by decide⟩, (List.forall_mem_cons.mpr ⟨⟨sl_309, by decide⟩, (List.forall_mem_cons.mpr ⟨⟨sl_311, by decide⟩, (List.forall_mem_cons.mpr ⟨⟨sl_313, by decide⟩, (List.forall_mem_cons.mpr ⟨⟨sl_315, by decide⟩, (List.forall_mem_cons.mpr ⟨⟨sl_317, by decide⟩, (List.forall_mem_cons.mpr ⟨⟨sl_322, by decide⟩, (List.forall_mem_cons.mpr ⟨⟨sl_324, by decide⟩, (List.forall_mem_cons.mpr ⟨⟨sl_326, by decide⟩, (List.forall_mem_cons.mpr ⟨⟨sl_327, by decide⟩, (List.forall_mem_cons.mpr ⟨⟨sl_329, by decide⟩, (List.forall_mem_cons.mpr ⟨⟨sl_331, by decide⟩, (List.forall_mem_cons.mpr ⟨⟨sl_333, by decide⟩, (List.forall_mem_cons.mpr ⟨⟨sl_335, by decide⟩, (List.forall_mem_cons.mpr ⟨⟨sl_70, by decide⟩, (List.forall_mem_cons.mpr ⟨⟨sl_84, by decide⟩, (fun _ h => absurd h List.not_mem_nil)⟩)⟩)⟩)⟩)⟩)⟩)⟩)⟩)⟩)⟩)⟩)⟩)⟩)⟩)⟩)⟩)⟩)⟩)⟩)⟩)⟩)⟩)⟩)⟩)
set_option maxRecDepth 100000 in
theorem sl_mod : (∀ c ∈ SL RX12 471 71 kf, c ∈ flatC (Jvm.Cond.and given_1 narrow_1)) ∧ ∀ c ∈ SL RX12 950 63 tf, c ∈ flatC (Jvm.Cond.and given_1 narrow_1) := ⟨mem_f _ [319, 320, 321, 322, 323, 324, 325, 326, 327, 328, 329, 330, 331, 332, 333, 334, 335, 336, 337, 338, 339, 340, 341, 342, 343, 344, 345, 346, 347, 348, 349, 350, 351, 352, 353, 354, 355, 356, 357, 358, 359, 360, 361, 362, 363, 364, 365, 366, 367, 368, 369, 370, 371, 372, 373, 374, 375, 376, 377, 378, 379, 380, 381, 382, 383, 384, 385, 386, 387, 388, 389, 390, 391, 392, 393] (by decide +kernel), mem_f _ [395, 396, 397, 398, 399, 400, 401, 402, 403, 404, 405, 406, 407, 408, 409, 410, 411, 412, 413, 414, 415, 416, 417, 418, 419, 420, 421, 422, 423, 424, 425, 426, 427, 428, 429, 430, 431, 432, 433, 434, 435, 436, 437, 438, 439, 440, 441, 442, 443, 444, 445, 446, 447, 448, 449, 450, 451, 452, 453, 454, 455, 456, 457, 458, 459, 460, 461] (by decide +kernel)⟩
set_option maxRecDepth 100000 in
theorem sl_mrf : ∀ w ∈ ([.stringRef RX12 471 "set param var whole from to row or if and not in sum different min max ", .stringRef RX12 950 "var x whole from to row r : or <= >= = different , ; min max * "] : List Cond), w ∈ lw_tbl := mem_p _ [(12, 168), (15, 27)] (by decide +kernel)
set_option maxHeartbeats 4000000 in
set_option maxRecDepth 100000 in
theorem lw_env {p : Program} {s : State} {m : MethodId} {meth : Method} {c : Code} {b L : Nat} {xs : Nat → Int32} (C0 : lw_At p s m meth c b L xs) {A : Nat → Prop} (hno : ∀ a : Nat, a < s.heap.size → ¬ A a) : CE A s s.heap ∧ StrA A s s.heap ∧ NcE s := by
  obtain ⟨hx, hb, hr, hml, hown, hts, hX, hbl, hlocks, hgv⟩ := id C0
  have hfl := flat_of_before _ hgv
  have hJ : JdkE A s s.heap := ⟨va_Zof (args := #[Value.ref b]) (by (first | exact hts _ (by decide +kernel) | exact flat_of_before _ hgv _ (by decide +kernel))) (by (first | exact hts _ (by decide +kernel) | exact flat_of_before _ hgv _ (by decide +kernel))) (va_eqt (by (first | exact hts _ (by decide +kernel) | exact flat_of_before _ hgv _ (by decide +kernel)))) hno, va_Zqof (args := #[Value.ref b]) (by (first | exact hts _ (by decide +kernel) | exact flat_of_before _ hgv _ (by decide +kernel))) (by (first | exact hts _ (by decide +kernel) | exact flat_of_before _ hgv _ (by decide +kernel))) (by (first | exact hts _ (by decide +kernel) | exact flat_of_before _ hgv _ (by decide +kernel))) hno⟩
  refine ⟨⟨hJ, ⟨(vx_Zqof (args := #[Value.ref b]) (by (first | exact hts _ (by decide +kernel) | exact flat_of_before _ hgv _ (by decide +kernel))) (by (first | exact hts _ (by decide +kernel) | exact flat_of_before _ hgv _ (by decide +kernel))) (by (first | exact hts _ (by decide +kernel) | exact flat_of_before _ hgv _ (by decide +kernel))) hno), (vx_Zqof (args := #[Value.ref b]) (by (first | exact hts _ (by decide +kernel) | exact flat_of_before _ hgv _ (by decide +kernel))) (by (first | exact hts _ (by decide +kernel) | exact flat_of_before _ hgv _ (by decide +kernel))) (by (first | exact hts _ (by decide +kernel) | exact flat_of_before _ hgv _ (by decide +kernel))) hno)⟩, ⟨(fun w h => va_Nw.of (ngX9_33_ot w h) (hts w ((show ∀ w ∈ ngX9_33, w ∈ lw_tbl by decide +kernel) w h))), (fun w h => va_Nw.of (ngX11_161_ot w h) (hts w ((show ∀ w ∈ ngX11_161, w ∈ lw_tbl by decide +kernel) w h))), (fun w h => va_Nw.of (ngX11_79_ot w h) (hts w ((show ∀ w ∈ ngX11_79, w ∈ lw_tbl by decide +kernel) w h))), (fun w h => va_Nw.of (ngX11_95_ot w h) (hts w ((show ∀ w ∈ ngX11_95, w ∈ lw_tbl by decide +kernel) w h))), ⟨(fun w h => va_Nw.of (ngN_ot w h) (hts w ((show ∀ w ∈ ngN, w ∈ lw_tbl by decide +kernel) w h))), va_AO.of (A := #[Value.ref b]) (by (first | exact hts _ (by decide +kernel) | exact flat_of_before _ hgv _ (by decide +kernel)))⟩⟩, fun i x hx => ?_⟩, ⟨?_, ?_⟩, ⟨va_Nc.of (flat_of_before _ hgv _ (by decide +kernel)), va_Nc.of (flat_of_before _ hgv _ (by decide +kernel)), va_Nc.of (flat_of_before _ hgv _ (by decide +kernel))⟩⟩
  · have hm := List.mem_of_getElem? hx
    obtain ⟨h1, h2⟩ := sl_cls x hm
    exact str_of hJ h2 (hts _ (sl_ref _ (List.mem_map.mpr ⟨x, hm, rfl⟩))) (fun c hc => hfl c (h1 c hc)) hno
  · exact str_of hJ (by decide) (hts _ (sl_mrf _ (List.mem_of_getElem? (i := 0) rfl))) (fun c hc => hfl c (sl_mod.1 c hc)) hno
  · exact str_of hJ (by decide) (hts _ (sl_mrf _ (List.mem_of_getElem? (i := 1) rfl))) (fun c hc => hfl c (sl_mod.2 c hc)) hno
end
section
def vi0 : Nat → Int32 := fun K => if K = 22 ∨ K = 24 ∨ K = 33 ∨ K = 145 then -1 else 0
set_option maxRecDepth 100000 in
theorem fM_start (a : Nat → Nat) : fM (vM a) = fM (vS a vi0 (fun _ => 0)) := rfl
theorem arrM_start : ∀ j, j < 107 → arrM j = (lenR j, match lngR j with
  | true => .inr (.inl (fun _ => 0))
  | false => .inl (fun _ => 0))
  | 0, _ => rfl
  | 1, _ => rfl
  | 2, _ => rfl
  | 3, _ => rfl
  | 4, _ => rfl
  | 5, _ => rfl
  | 6, _ => rfl
  | 7, _ => rfl
  | 8, _ => rfl
  | 9, _ => rfl
  | 10, _ => rfl
  | 11, _ => rfl
  | 12, _ => rfl
  | 13, _ => rfl
  | 14, _ => rfl
  | 15, _ => rfl
  | 16, _ => rfl
  | 17, _ => rfl
  | 18, _ => rfl
  | 19, _ => rfl
  | 20, _ => rfl
  | 21, _ => rfl
  | 22, _ => rfl
  | 23, _ => rfl
  | 24, _ => rfl
  | 25, _ => rfl
  | 26, _ => rfl
  | 27, _ => rfl
  | 28, _ => rfl
  | 29, _ => rfl
  | 30, _ => rfl
  | 31, _ => rfl
  | 32, _ => rfl
  | 33, _ => rfl
  | 34, _ => rfl
  | 35, _ => rfl
  | 36, _ => rfl
  | 37, _ => rfl
  | 38, _ => rfl
  | 39, _ => rfl
  | 40, _ => rfl
  | 41, _ => rfl
  | 42, _ => rfl
  | 43, _ => rfl
  | 44, _ => rfl
  | 45, _ => rfl
  | 46, _ => rfl
  | 47, _ => rfl
  | 48, _ => rfl
  | 49, _ => rfl
  | 50, _ => rfl
  | 51, _ => rfl
  | 52, _ => rfl
  | 53, _ => rfl
  | 54, _ => rfl
  | 55, _ => rfl
  | 56, _ => rfl
  | 57, _ => rfl
  | 58, _ => rfl
  | 59, _ => rfl
  | 60, _ => rfl
  | 61, _ => rfl
  | 62, _ => rfl
  | 63, _ => rfl
  | 64, _ => rfl
  | 65, _ => rfl
  | 66, _ => rfl
  | 67, _ => rfl
  | 68, _ => rfl
  | 69, _ => rfl
  | 70, _ => rfl
  | 71, _ => rfl
  | 72, _ => rfl
  | 73, _ => rfl
  | 74, _ => rfl
  | 75, _ => rfl
  | 76, _ => rfl
  | 77, _ => rfl
  | 78, _ => rfl
  | 79, _ => rfl
  | 80, _ => rfl
  | 81, _ => rfl
  | 82, _ => rfl
  | 83, _ => rfl
  | 84, _ => rfl
  | 85, _ => rfl
  | 86, _ => rfl
  | 87, _ => rfl
  | 88, _ => rfl
  | 89, _ => rfl
  | 90, _ => rfl
  | 91, _ => rfl
  | 92, _ => rfl
  | 93, _ => rfl
  | 94, _ => rfl
  | 95, _ => rfl
  | 96, _ => rfl
  | 97, _ => rfl
  | 98, _ => rfl
  | 99, _ => rfl
  | 100, _ => rfl
  | 101, _ => rfl
  | 102, _ => rfl
  | 103, _ => rfl
  | 104, _ => rfl
  | 105, _ => rfl
  | 106, _ => rfl
  | n + 107, h => absurd h (by omega)
theorem wX12_start (a : Nat → Nat) (k : Nat → ClassId) (h0 : Nat) : wX12 a k h0 = WR a k h0 vi0 (fun _ => 0) (fun _ _ => 0) (fun _ _ => 0) := by
  unfold wX12 WR aM
  rw [fM_start a]
  refine congrArg (List.cons _) (List.map_congr_left (fun j hj => ?_))
  unfold cellM cR
  rw [arrM_start j (List.mem_range.mp hj)]
  cases lngR j <;> rfl
theorem Bg_start : Bg (fun _ => 0) (fun _ => 0) := fun s _ => ⟨0, by decide, rfl, fun q hq => absurd hq (Nat.not_lt_zero q), fun h => absurd h (Nat.lt_irrefl 0), rfl, Or.inl ⟨rfl, rfl⟩⟩
theorem z_bd {lo hi : Int} (h1 : lo ≤ 0) (h2 : 0 ≤ hi) : lo ≤ (0 : Int32).toInt ∧ (0 : Int32).toInt ≤ hi := ⟨h1, h2⟩
theorem RefI_start (a : Nat → Nat) (k : Nat → ClassId) (h0 : Nat) : RefI k h0 (0, ntZ, clZ, vlZ) 0 (wX12 a k h0) := by
  refine ⟨a, vi0, fun _ => 0, fun _ _ => 0, fun _ _ => 0, fun _ => 0, 0, 0, 0, 0, 0, 0, 0, 0, 0, 0, 0, 0, ?_, rfl, cVal.z, vWf.z, Or.inl (by decide), rfl, wX12_start a k h0⟩
  refine InvR.of (x145 := -1) (x113 := 0) (x117 := 0) rfl rfl rfl rfl rfl rfl rfl rfl rfl rfl rfl rfl rfl rfl rfl rfl rfl rfl rfl rfl rfl rfl rfl rfl rfl rfl rfl rfl rfl rfl rfl rfl rfl rfl rfl rfl Bg_start ⟨by decide, by decide, by decide, by decide⟩ ⟨by decide, by decide, by decide, by decide⟩ ⟨by decide, by decide, by decide⟩ ⟨⟨fun _ _ => z_bd (by decide) (by decide), fun _ _ => z_bd (by decide) (by decide), fun _ _ => z_bd (by decide) (by decide), fun _ _ _ _ => z_bd (by decide) (by decide), fun _ h => absurd h (Nat.not_lt_zero _), fun _ _ h => absurd h (Nat.not_lt_zero _), fun _ _ => z_bd (by decide) (by decide)⟩, ⟨fun _ _ => z_bd (by decide) (by decide), fun _ _ _ _ => z_bd (by decide) (by decide)⟩, fun _ h => absurd h (Nat.not_lt_zero _), fun _ h => absurd h (Nat.not_lt_zero _)⟩ ⟨fun _ _ => ⟨0, 0, rfl, rfl, by decide⟩, fun _ _ => z_bd (by decide) (by decide)⟩ ⟨fun _ h => absurd h (Nat.not_lt_zero _), fun _ h => absurd h (Nat.not_lt_zero _), fun _ h => absurd h (Nat.not_lt_zero _), Or.inl rfl, fun _ _ => ⟨show (0 : Int) ≤ (0 : Int32).toInt by decide, show (0 : Int32).toInt < 8 by decide⟩⟩ ⟨?_, ?_, fun h => absurd rfl h, Or.inl rfl, fun h => absurd rfl h, Or.inl rfl⟩
  · exact ⟨fun _ _ => Nat.two_pow_pos 131, fun _ _ => ⟨Nat.two_pow_pos 209, Nat.two_pow_pos 187⟩⟩
  · exact ⟨fun _ _ => Nat.two_pow_pos 131, fun _ _ => ⟨Nat.two_pow_pos 209, Nat.two_pow_pos 187⟩⟩
set_option maxHeartbeats 4000000 in
set_option maxRecDepth 100000 in
theorem ClsI_start (q0 : Nat) (aa : Nat → Nat) (kk : Nat → ClassId) (cI cB cL cZ cW : ClassId) : ∃ Fc Fs : Nat, ClsI (fun j => ([kk 0, kk 12] : List ClassId).getD j cI) (fun j => ([kk 1] : List ClassId).getD j cI) (fun j => ([kk 2, kk 3, kk 4, kk 5, kk 6, kk 7, kk 8, kk 9, kk 10, kk 11] : List ClassId).getD j cI) (fun j => ([cI, cI, cI, cI, cI, cI, cI, cI, cI, cL, cL, cI, cI, cL] : List ClassId).getD j cI) (fun j => ([cI, cI, cI, cI, cI] : List ClassId).getD j cI) (fun j => ([cI, cI, cI, cI, cI, cI, cI, cI, cI, cI, cI] : List ClassId).getD j cI) (fun j => ([cL] : List ClassId).getD j cI) (fun j => ([cL, cI, cI, cI, cI, cI, cI, cL, cL, cI] : List ClassId).getD j cI) (fun j => ([cI] : List ClassId).getD j cI) (fun j => ([cI, cL, cL, cI, cI, cI, cW, cW, cW, cW] : List ClassId).getD j cI) (fun j => ([cW, cI, cI, cZ] : List ClassId).getD j cI) (fun j => ([cZ, cW, cW, cI, cI] : List ClassId).getD j cI) cL q0 (0, ntZ, clZ, vlZ) Fc Fs [(q0, .inr (11, [.ref (aa 0), .ref (aa 1), .ref (aa 3), .ref (aa 14), .int 0, .null, .null, .null, .null, .null, .null])), ((aa 0), .inl ((kk 0), 5, .inl (fun _ => 0))), ((aa 14), .inl ((kk 12), 64, .inl (fun _ => 0))), ((aa 1), .inr (9, [.ref (aa 2), .int 0, .int 0, .int (-1), .int 0, .int 0, .int 0, .long 0, .int 0])), ((aa 2), .inl ((kk 1), 64, .inl (fun _ => 0))), ((aa 3), .inr (1, [.int 0, .int 0, .int 0, .int 0, .int 0, .int 0, .ref (aa 4), .ref (aa 5), .ref (aa 6), .ref (aa 7), .int 0, .ref (aa 8), .ref (aa 9), .ref (aa 10), .ref (aa 11), .ref (aa 12), .ref (aa 13)])), ((aa 4), .inl ((kk 2), 8, .inl (fun _ => 0))), ((aa 5), .inl ((kk 3), 8, .inl (fun _ => 0))), ((aa 6), .inl ((kk 4), 8, .inl (fun _ => 0))), ((aa 7), .inl ((kk 5), 12, .inl (fun _ => 0))), ((aa 8), .inl ((kk 6), 12, .inl (fun _ => 0))), ((aa 9), .inl ((kk 7), 360, .inl (fun _ => 0))), ((aa 10), .inl ((kk 8), 27, .inl (fun _ => 0))), ((aa 11), .inl ((kk 9), 27, .inl (fun _ => 0))), ((aa 12), .inl ((kk 10), 3, .inl (fun _ => 0))), ((aa 13), .inl ((kk 11), 8, .inl (fun _ => 0)))] :=
  ⟨_, _, (fun _ => q0), (fun _ => aa 0), (fun _ => aa 1), (fun _ => aa 3), (fun _ => 0), (fun _ => 0), (aa 14), 64, 0, .null, .null, .null, .null, .null, .null, (fun _ => 0), (fun _ => 0), (aa 2), 64, 0, 0, (-1), 0, 0, 0, 0, 0, (fun j => aa (j + 4)), 0, 0, 0, 0, 0, 0, (fun _ => 0), (fun _ => 0), (fun _ => 0), (fun _ => 0), 0, (fun _ => 0), (fun _ => 0), (fun _ => 0), (fun _ => 0), (fun _ => 0), (fun _ => 0), [], [], [], [], [], 0, 0, 0, 0, 0, ntZ, clZ, vlZ, (by first | decide | (intro q; exact z_bd (by decide) (by decide)) | (intro q; decide) | (intro q h; decide) | (intros; decide) | (intros; omega)), (by first | decide | (intro q; exact z_bd (by decide) (by decide)) | (intro q; decide) | (intro q h; decide) | (intros; decide) | (intros; omega)), (by first | decide | (intro q; exact z_bd (by decide) (by decide)) | (intro q; decide) | (intro q h; decide) | (intros; decide) | (intros; omega)), (by first | decide | (intro q; exact z_bd (by decide) (by decide)) | (intro q; decide) | (intro q h; decide) | (intros; decide) | (intros; omega)), (by first | decide | (intro q; exact z_bd (by decide) (by decide)) | (intro q; decide) | (intro q h; decide) | (intros; decide) | (intros; omega)), (by first | decide | (intro q; exact z_bd (by decide) (by decide)) | (intro q; decide) | (intro q h; decide) | (intros; decide) | (intros; omega)), (by first | decide | (intro q; exact z_bd (by decide) (by decide)) | (intro q; decide) | (intro q h; decide) | (intros; decide) | (intros; omega)), (by first | decide | (intro q; exact z_bd (by decide) (by decide)) | (intro q; decide) | (intro q h; decide) | (intros; decide) | (intros; omega)), (by first | decide | (intro q; exact z_bd (by decide) (by decide)) | (intro q; decide) | (intro q h; decide) | (intros; decide) | (intros; omega)), (by first | decide | (intro q; exact z_bd (by decide) (by decide)) | (intro q; decide) | (intro q h; decide) | (intros; decide) | (intros; omega)), (by first | decide | (intro q; exact z_bd (by decide) (by decide)) | (intro q; decide) | (intro q h; decide) | (intros; decide) | (intros; omega)), (by first | decide | (intro q; exact z_bd (by decide) (by decide)) | (intro q; decide) | (intro q h; decide) | (intros; decide) | (intros; omega)), (by first | decide | (intro q; exact z_bd (by decide) (by decide)) | (intro q; decide) | (intro q h; decide) | (intros; decide) | (intros; omega)), (by first | decide | (intro q; exact z_bd (by decide) (by decide)) | (intro q; decide) | (intro q h; decide) | (intros; decide) | (intros; omega)), (by first | decide | (intro q; exact z_bd (by decide) (by decide)) | (intro q; decide) | (intro q h; decide) | (intros; decide) | (intros; omega)), (by first | decide | (intro q; exact z_bd (by decide) (by decide)) | (intro q; decide) | (intro q h; decide) | (intros; decide) | (intros; omega)), (by first | decide | (intro q; exact z_bd (by decide) (by decide)) | (intro q; decide) | (intro q h; decide) | (intros; decide) | (intros; omega)), (by first | decide | (intro q; exact z_bd (by decide) (by decide)) | (intro q; decide) | (intro q h; decide) | (intros; decide) | (intros; omega)), (by first | decide | (intro q; exact z_bd (by decide) (by decide)) | (intro q; decide) | (intro q h; decide) | (intros; decide) | (intros; omega)), (by first | decide | (intro q; exact z_bd (by decide) (by decide)) | (intro q; decide) | (intro q h; decide) | (intros; decide) | (intros; omega)), (by first | decide | (intro q; exact z_bd (by decide) (by decide)) | (intro q; decide) | (intro q h; decide) | (intros; decide) | (intros; omega)), (Or.inl ⟨rfl, rfl, rfl, rfl⟩), (Or.inl ⟨Or.inl ⟨rfl, rfl⟩, rfl⟩), (Or.inl ⟨rfl, rfl, rfl, rfl⟩), (Or.inl ⟨rfl, rfl, rfl⟩), (Or.inl ⟨rfl, rfl, rfl⟩), (Or.inl ⟨rfl, rfl⟩), (Or.inl ⟨rfl, rfl⟩), rfl, rfl, rfl, rfl, rfl⟩
set_option maxRecDepth 100000 in
theorem tau_start {D : va_G} {s : State} {kk : Nat → ClassId} {cL cW : ClassId} (h : va_K D vwCl [(kk 0, .int), (kk 1, .byte), (kk 2, .int), (kk 3, .int), (kk 4, .boolean), (kk 5, .int), (kk 6, .int), (kk 7, .int), (kk 8, .int), (kk 9, .int), (kk 10, .boolean), (kk 11, .int), (kk 12, .byte), (cL, .long), (cW, .object "OptimaWorks$Whole")] s) : va_K D vwCl (tX (fun j => ([kk 0, kk 12] : List ClassId).getD j (kk 0)) ++ (tT (fun j => ([kk 1] : List ClassId).getD j (kk 0)) ++ (tM (fun j => ([kk 2, kk 3, kk 4, kk 5, kk 6, kk 7, kk 8, kk 9, kk 10, kk 11] : List ClassId).getD j (kk 0)) ++ (tV (fun j => ([(kk 0), (kk 0), (kk 0), (kk 0), (kk 0), (kk 0), (kk 0), (kk 0), (kk 0), cL, cL, (kk 0), (kk 0), cL] : List ClassId).getD j (kk 0)) ++ (tC (fun j => ([(kk 0), (kk 0), (kk 0), (kk 0), (kk 0)] : List ClassId).getD j (kk 0)) ++ (tN (fun j => ([(kk 0), (kk 0), (kk 0), (kk 0), (kk 0), (kk 0), (kk 0), (kk 0), (kk 0), (kk 0), (kk 0)] : List ClassId).getD j (kk 0)) ++ (tJ (fun j => ([cL] : List ClassId).getD j (kk 0)) ++ (tL (fun j => ([cL, (kk 0), (kk 0), (kk 0), (kk 0), (kk 0), (kk 0), cL, cL, (kk 0)] : List ClassId).getD j (kk 0)) ++ (tF (fun j => ([(kk 0)] : List ClassId).getD j (kk 0)) ++ (tO (fun j => ([(kk 0), cL, cL, (kk 0), (kk 0), (kk 0), cW, cW, cW, cW] : List ClassId).getD j (kk 0)) ++ (tQ (fun j => ([cW, (kk 0), (kk 0), (kk 4)] : List ClassId).getD j (kk 0)) ++ (tG (fun j => ([(kk 4), cW, cW, (kk 0), (kk 0)] : List ClassId).getD j (kk 0)) ++ (tW cL))))))))))))) s := h.sub [0, 12, 1, 2, 3, 4, 5, 6, 7, 8, 9, 10, 11, 0, 0, 0, 0, 0, 0, 0, 0, 0, 13, 13, 0, 0, 13, 0, 0, 0, 0, 0, 0, 0, 0, 0, 0, 0, 0, 0, 0, 0, 0, 13, 13, 0, 0, 0, 0, 0, 0, 13, 13, 0, 0, 0, 13, 13, 0, 0, 0, 14, 14, 14, 14, 14, 0, 0, 4, 4, 14, 14, 0, 0, 13] rfl
/-- a list in another order: by its places -/
theorem perm_w {ws ws' : va_W} {is : List Nat} (hp : is.Perm (List.range is.length)) (hl : ws.length = is.length) (e : ws' = is.filterMap (fun i => ws[i]?)) : ws.Perm ws' := by
  subst e
  have h : (List.range ws.length).filterMap (fun i => ws[i]?) = ws := by
    clear hl hp
    induction ws with
    | nil => rfl
    | cons a t ih =>
      rw [List.length_cons, List.range_succ_eq_map, List.filterMap_cons, List.filterMap_map]
      show a :: _ = _
      congr 1
  have h2 : ((List.range ws.length).filterMap (fun i => ws[i]?)).Perm (is.filterMap (fun i => ws[i]?)) := by
    rw [hl]; exact hp.symm.filterMap _
  rw [h] at h2
  exact h2
theorem va_AO.cls {C : String} {s : State} (h : va_AO C s) {dC : Nat → ClassId} {dI : Nat → Nat → Nat} (hK : ∀ (c : Nat) (q : vw_C), vwCl[c]? = some q → u_Kn s q.1 q.2.1 q.2.2 (dC c) (dI c)) : ∃ k : ClassId, va_K (dC, dI) vwCl [(k, .object C)] s := by
  obtain ⟨comp, c, k, h1, h2, h3, h4, h5⟩ := Cond.arrayOver_spec h
  refine ⟨c, hK, fun i q hq => ?_⟩
  cases i with
  | zero =>
    obtain rfl := Option.some.inj hq
    exact ⟨fun N z => ⟨(fun k h => by cases h), k, h3, comp, h4⟩, ⟨k, comp, h3, h4, h1, h5⟩⟩
  | succ n => cases hq
theorem dL_law_0 : decode cL_law 0 = .ok (.new 8, 3) := dk_187 (by decide +kernel)
theorem dL_law_3 : decode cL_law 3 = .ok (.dup, 1) := dk_89 (by decide +kernel)
theorem dL_law_4 : decode cL_law 4 = .ok (.invokespecial 88, 3) := dk_183 (by decide +kernel)
theorem dL_law_7 : decode cL_law 7 = .ok (.astore_n 1, 1) := dk_76 (by decide +kernel)
theorem dL_law_8 : decode cL_law 8 = .ok (.new 89, 3) := dk_187 (by decide +kernel)
theorem dL_law_11 : decode cL_law 11 = .ok (.dup, 1) := dk_89 (by decide +kernel)
theorem dL_law_12 : decode cL_law 12 = .ok (.invokespecial 91, 3) := dk_183 (by decide +kernel)
theorem dL_law_15 : decode cL_law 15 = .ok (.astore_n 2, 1) := dk_77 (by decide +kernel)
theorem dL_law_16 : decode cL_law 16 = .ok (.iconst 1, 1) := dk_4 (by decide +kernel)
theorem dL_law_17 : decode cL_law 17 = .ok (.newarray .long, 2) := by decide +kernel
theorem dL_law_19 : decode cL_law 19 = .ok (.astore_n 3, 1) := dk_78 (by decide +kernel)
theorem dL_law_20 : decode cL_law 20 = .ok (.iconst 0, 1) := dk_3 (by decide +kernel)
theorem dL_law_21 : decode cL_law 21 = .ok (.istore 4, 2) := dk_54 (by decide +kernel)
set_option maxRecDepth 100000 in
theorem gwx_11 : GoodIn lw_tbl wsX11_init := goodIn_sub (ml_wsX11_init) (by decide +kernel)
set_option maxRecDepth 100000 in
theorem gwx_12 : GoodIn lw_tbl wsX12_init := goodIn_sub (ml_wsX12_init) (by decide +kernel)
set_option maxHeartbeats 4000000 in
set_option maxRecDepth 100000 in
theorem whole_start {p : Program} {e : Env} {s : State} {m : MethodId} {below : List Frame} {meth : Method} {c : Code} (l : Launch) (hst : l.stackTraces = false) {b Ls : Nat} {xs : Nat → Int32} (hLs : Ls ≤ 384) (C0 : lw_At p s m meth c b Ls xs) : W p l e room_1 s m #[Value.ref b] below meth c s.heap [] 0 0 (lw_Z below #[Value.ref b] s) (entryFrame m ([Value.ref b] : List Value).toArray 7) := by
  obtain ⟨hx, hb, hr, hml, hown, hts, hX, hbl, hlocks, hgv⟩ := id C0
  have hb : c.code = cL_law := hb
  have hown : s.vm.findClass RL = some m.cls := hown
  have hn15 : va_Nw (.methodLinkNest RX11 15 yX9_init RX11) s := va_Nw.of rfl (hts _ (by decide +kernel))
  have hn22 : va_Nw (.methodLinkNest RX11 22 yX1_init RX11) s := va_Nw.of rfl (hts _ (by decide +kernel))
  obtain ⟨c0, i0, hKn0⟩ := u_known (C := RX0) (T := TX0) (N := 7) (n := 7) hts il_0 (hts (.instantiable RX0 7) (by decide +kernel))
  obtain ⟨c1, i1, hKn1⟩ := u_known (C := RX1) (T := TX1) (N := 17) (n := 17) hts il_1 (hts (.instantiable RX1 17) (by decide +kernel))
  obtain ⟨c2, i2, hKn2⟩ := u_known (C := RX2) (T := TX2) (N := 14) (n := 14) hts il_2 (hts (.instantiable RX2 14) (by decide +kernel))
  obtain ⟨c3, i3, hKn3⟩ := u_known (C := RX3) (T := TX3) (N := 17) (n := 17) hts il_3 (hts (.instantiable RX3 17) (by decide +kernel))
  obtain ⟨c4, i4, hKn4⟩ := u_known (C := RX4) (T := TX4) (N := 11) (n := 11) hts il_4 (hts (.instantiable RX4 11) (by decide +kernel))
  obtain ⟨c5, i5, hKn5⟩ := u_known (C := RX5) (T := TX5) (N := 19) (n := 19) hts il_5 (hts (.instantiable RX5 19) (by decide +kernel))
  obtain ⟨c6, i6, hKn6⟩ := u_known (C := RX6) (T := TX6) (N := 13) (n := 13) hts il_6 (hts (.instantiable RX6 13) (by decide +kernel))
  obtain ⟨c7, i7, hKn7⟩ := u_known (C := RX7) (T := TX7) (N := 20) (n := 20) hts il_7 (hts (.instantiable RX7 20) (by decide +kernel))
  obtain ⟨c8, i8, hKn8⟩ := u_known (C := RX8) (T := TX8) (N := 3) (n := 3) hts il_8 (hts (.instantiable RX8 3) (by decide +kernel))
  obtain ⟨c9, i9, hKn9⟩ := u_known (C := RX9) (T := TX9) (N := 9) (n := 9) hts il_9 (hts (.instantiable RX9 9) (by decide +kernel))
  obtain ⟨c10, i10, hKn10⟩ := u_known (C := RX10) (T := TX10) (N := 20) (n := 20) hts il_10 (hts (.instantiable RX10 20) (by decide +kernel))
  obtain ⟨c11, i11, hKn11⟩ := u_known (C := RX11) (T := TX11) (N := 11) (n := 11) hts il_11 (hts (.instantiable RX11 11) (by decide +kernel))
  obtain ⟨c12, i12, hKn12⟩ := u_known (C := RX12) (T := TX12) (N := 163) (n := 163) hts il_12 (hts (.instantiable RX12 163) (by decide +kernel))
  obtain ⟨dC, dI, hKc⟩ : ∃ (dC : Nat → ClassId) (dI : Nat → Nat → Nat), ∀ (k : Nat) (q : vw_C), vwCl[k]? = some q → u_Kn s q.1 q.2.1 q.2.2 (dC k) (dI k) := by
    refine ⟨fun k => [c0, c1, c2, c3, c4, c5, c6, c7, c8, c9, c10, c11, c12].getD k c0, fun k => [i0, i1, i2, i3, i4, i5, i6, i7, i8, i9, i10, i11, i12].getD k i0, ?_⟩
    intro k q hq
    match k, hq with
    | 0, hq => cases hq; exact hKn0
    | 1, hq => cases hq; exact hKn1
    | 2, hq => cases hq; exact hKn2
    | 3, hq => cases hq; exact hKn3
    | 4, hq => cases hq; exact hKn4
    | 5, hq => cases hq; exact hKn5
    | 6, hq => cases hq; exact hKn6
    | 7, hq => cases hq; exact hKn7
    | 8, hq => cases hq; exact hKn8
    | 9, hq => cases hq; exact hKn9
    | 10, hq => cases hq; exact hKn10
    | 11, hq => cases hq; exact hKn11
    | 12, hq => cases hq; exact hKn12
    | k + 13, hq => simp [vwCl] at hq
  obtain ⟨A, hA, hA2⟩ : ∃ A : Nat → Prop, (∀ q : Nat, s.heap.size ≤ q → A q) ∧ (∀ q : Nat, A q → s.heap.size ≤ q) := ⟨fun q => s.heap.size ≤ q, fun _ h => h, fun _ h => h⟩
  obtain ⟨hCE, hSA, hNc⟩ := lw_env C0 (A := A) (fun a h1 h2 => absurd (hA2 a h2) (Nat.not_le.mpr h1))
  have hbA : ¬ A b := fun h => absurd (hA2 b h) (Nat.not_le.mpr hbl)
  have hS : va_S A s.heap s.heap [] := va_S.rf
  have hK : va_K (dC, dI) vwCl [] s := ⟨hKc, fun k q h => by simp at h⟩
  have hP : va_P (dC, dI) vwCl [] s.heap := nilP
  have hD : va_D A [] := nilD
  have hl := lv_entry ([.ref b]) (n := 7) (Nat.le_of_ble_eq_true rfl)
  rw [lg_entry_eq]
  generalize (lg_sl ([.ref b]) ++ List.replicate (7 - (lg_sl ([.ref b])).length) Slot.unset).toArray = ls at hl ⊢
  have hl : lv_has ls 7 [(0, .ref b)] := hl
  refine va_new (ci := 11) (fs := [.null, .null, .null, .null, .int 0, .null, .null, .null, .null, .null, .null]) (C := RX11) (T := TX11) (N := 11) hx hb hts il_11 tyX11 tyX11_ok hown (hts (.classLink RL 8 RX11) (by decide +kernel)) (hts (.instantiable RX11 11) (by decide +kernel)) (hts (.initialized RX11) (by decide +kernel)) hK hP hD hS hA rfl (by decide +kernel) (by decide +kernel) (by decide +kernel) dL_law_0 (fun q0 H hP hD hS => ?_)
  have hP : va_P (dC, dI) vwCl [(q0, .inr (11, [.null, .null, .null, .null, .int 0, .null, .null, .null, .null, .null, .null]))] H := hP
  have hD : va_D A [(q0, .inr (11, [.null, .null, .null, .null, .int 0, .null, .null, .null, .null, .null, .null]))] := hD
  refine W.widen (k := 1) (n := 11) (by decide +kernel) (by decide +kernel) ?_
  refine lv_dup hx hb dL_law_3 rfl ?_
  have hPc : va_P (dC, dI) vwCl ([(q0, .inr (11, [.null, .null, .null, .null, .int 0, .null, .null, .null, .null, .null, .null]))]) _ := hP.sub [0] rfl
  have hDc : va_D _ ([(q0, .inr (11, [.null, .null, .null, .null, .int 0, .null, .null, .null, .null, .null, .null]))]) := hD.sub [0] (by decide) rfl
  have hKc : va_K (dC, dI) vwCl ([]) _ := hK.sub [] rfl
  have hFc := va_free (wc := [(q0, .inr (11, [.null, .null, .null, .null, .int 0, .null, .null, .null, .null, .null, .null]))]) hD hS hA [0] rfl
  refine va_callv (va_runI (As := []) (rest := [.ref q0]) ⟨hx, hb, hml, hown, hts⟩ (c_X11_init l dC dI q0 H.size) (cwI 0 hts gwx_11 rfl rfl rfl (hts (.initialized RX11) (by decide +kernel)) (hts (.methodLink RL 88 yX11_init) (by decide +kernel)) (hts (.instanceMethod yX11_init) (by decide +kernel)) rfl (by decide +kernel) ⟨by decide +kernel, by decide +kernel⟩) ⟨fun a U g mk q => by obtain ⟨q0, q1, qP, qK, qD, qhn15, qhn22⟩ := q; exact ⟨q0, q1, qP, va_K.moved (u := U) (U := U.calling g mk a) (Vm.Alike.refl U.vm) qK, qD, va_Nw.same (u := U) (U := U.calling g mk a) rfl rfl qhn15, va_Nw.same (u := U) (U := U.calling g mk a) rfl rfl qhn22⟩, fun U hU9 hW => ⟨rfl, by rw [hU9], by rw [hU9]; exact hPc, va_K.moved hW.alike hKc, hDc.weaken (fun _ _ _ _ => trivial), va_Nw.warmM hW hn15, va_Nw.warmM hW hn22⟩⟩ rfl rfl hl.1 rfl (lv_room (Nat.le_of_ble_eq_true rfl)) dL_law_4 (by decide +kernel)) hS (fun q _ h => hFc q h) hFc (fun u t H1 locs ht hvm hw hB hz1 hk1 hS => ?_)
  obtain ⟨aa, kk⟩ := u
  obtain ⟨hP1, hK1, hD1⟩ := hB
  rw [ht] at hP1
  have hK1 := va_K.moved hvm.symm hK1
  obtain ⟨hP, hD⟩ := va_join (wr := []) (w1 := [(q0, .inr (11, [.ref (aa 0), .ref (aa 1), .ref (aa 3), .ref (aa 14), .int 0, .null, .null, .null, .null, .null, .null])), ((aa 0), .inl ((kk 0), 5, .inl (fun _ => 0))), ((aa 1), .inr (9, [.ref (aa 2), .int 0, .int 0, .int (-1), .int 0, .int 0, .int 0, .long 0, .int 0])), ((aa 2), .inl ((kk 1), 64, .inl (fun _ => 0))), ((aa 3), .inr (1, [.int 0, .int 0, .int 0, .int 0, .int 0, .int 0, .ref (aa 4), .ref (aa 5), .ref (aa 6), .ref (aa 7), .int 0, .ref (aa 8), .ref (aa 9), .ref (aa 10), .ref (aa 11), .ref (aa 12), .ref (aa 13)])), ((aa 4), .inl ((kk 2), 8, .inl (fun _ => 0))), ((aa 5), .inl ((kk 3), 8, .inl (fun _ => 0))), ((aa 6), .inl ((kk 4), 8, .inl (fun _ => 0))), ((aa 7), .inl ((kk 5), 12, .inl (fun _ => 0))), ((aa 8), .inl ((kk 6), 12, .inl (fun _ => 0))), ((aa 9), .inl ((kk 7), 360, .inl (fun _ => 0))), ((aa 10), .inl ((kk 8), 27, .inl (fun _ => 0))), ((aa 11), .inl ((kk 9), 27, .inl (fun _ => 0))), ((aa 12), .inl ((kk 10), 3, .inl (fun _ => 0))), ((aa 13), .inl ((kk 11), 8, .inl (fun _ => 0))), ((aa 14), .inl ((kk 12), 64, .inl (fun _ => 0)))]) hP hD [0] [] rfl rfl (by decide) (by decide) hk1 hFc hP1 hD1
  have hK := hK.app hK1
  generalize H1 = H at hP hS ⊢
  have hP : va_P (dC, dI) vwCl [(q0, .inr (11, [.ref (aa 0), .ref (aa 1), .ref (aa 3), .ref (aa 14), .int 0, .null, .null, .null, .null, .null, .null])), ((aa 0), .inl ((kk 0), 5, .inl (fun _ => 0))), ((aa 1), .inr (9, [.ref (aa 2), .int 0, .int 0, .int (-1), .int 0, .int 0, .int 0, .long 0, .int 0])), ((aa 2), .inl ((kk 1), 64, .inl (fun _ => 0))), ((aa 3), .inr (1, [.int 0, .int 0, .int 0, .int 0, .int 0, .int 0, .ref (aa 4), .ref (aa 5), .ref (aa 6), .ref (aa 7), .int 0, .ref (aa 8), .ref (aa 9), .ref (aa 10), .ref (aa 11), .ref (aa 12), .ref (aa 13)])), ((aa 4), .inl ((kk 2), 8, .inl (fun _ => 0))), ((aa 5), .inl ((kk 3), 8, .inl (fun _ => 0))), ((aa 6), .inl ((kk 4), 8, .inl (fun _ => 0))), ((aa 7), .inl ((kk 5), 12, .inl (fun _ => 0))), ((aa 8), .inl ((kk 6), 12, .inl (fun _ => 0))), ((aa 9), .inl ((kk 7), 360, .inl (fun _ => 0))), ((aa 10), .inl ((kk 8), 27, .inl (fun _ => 0))), ((aa 11), .inl ((kk 9), 27, .inl (fun _ => 0))), ((aa 12), .inl ((kk 10), 3, .inl (fun _ => 0))), ((aa 13), .inl ((kk 11), 8, .inl (fun _ => 0))), ((aa 14), .inl ((kk 12), 64, .inl (fun _ => 0)))] H := hP
  have hD : va_D A [(q0, .inr (11, [.ref (aa 0), .ref (aa 1), .ref (aa 3), .ref (aa 14), .int 0, .null, .null, .null, .null, .null, .null])), ((aa 0), .inl ((kk 0), 5, .inl (fun _ => 0))), ((aa 1), .inr (9, [.ref (aa 2), .int 0, .int 0, .int (-1), .int 0, .int 0, .int 0, .long 0, .int 0])), ((aa 2), .inl ((kk 1), 64, .inl (fun _ => 0))), ((aa 3), .inr (1, [.int 0, .int 0, .int 0, .int 0, .int 0, .int 0, .ref (aa 4), .ref (aa 5), .ref (aa 6), .ref (aa 7), .int 0, .ref (aa 8), .ref (aa 9), .ref (aa 10), .ref (aa 11), .ref (aa 12), .ref (aa 13)])), ((aa 4), .inl ((kk 2), 8, .inl (fun _ => 0))), ((aa 5), .inl ((kk 3), 8, .inl (fun _ => 0))), ((aa 6), .inl ((kk 4), 8, .inl (fun _ => 0))), ((aa 7), .inl ((kk 5), 12, .inl (fun _ => 0))), ((aa 8), .inl ((kk 6), 12, .inl (fun _ => 0))), ((aa 9), .inl ((kk 7), 360, .inl (fun _ => 0))), ((aa 10), .inl ((kk 8), 27, .inl (fun _ => 0))), ((aa 11), .inl ((kk 9), 27, .inl (fun _ => 0))), ((aa 12), .inl ((kk 10), 3, .inl (fun _ => 0))), ((aa 13), .inl ((kk 11), 8, .inl (fun _ => 0))), ((aa 14), .inl ((kk 12), 64, .inl (fun _ => 0)))] := hD
  have hK : va_K (dC, dI) vwCl [((kk 0), .int), ((kk 1), .byte), ((kk 2), .int), ((kk 3), .int), ((kk 4), .boolean), ((kk 5), .int), ((kk 6), .int), ((kk 7), .int), ((kk 8), .int), ((kk 9), .int), ((kk 10), .boolean), ((kk 11), .int), ((kk 12), .byte)] s := hK
  refine W.widen (k := 16) (n := 643) (by decide +kernel) (by decide +kernel) ?_
  refine lv_astore_n hx hb dL_law_7 rfl hl (by decide) rfl (fun ls (hl : lv_has ls _ ([(1, .ref q0), (0, .ref b)])) => ?_)
  refine va_new (ci := 12) (fs := fM v0M) (C := RX12) (T := TX12) (N := 163) hx hb hts il_12 tyX12 tyX12_ok hown (hts (.classLink RL 89 RX12) (by decide +kernel)) (hts (.instantiable RX12 163) (by decide +kernel)) (hts (.initialized RX12) (by decide +kernel)) hK hP hD hS hA rfl (by decide +kernel) (by decide +kernel) (by decide +kernel) dL_law_8 (fun h2 H hP hD hS => ?_)
  have hP : va_P (dC, dI) vwCl [(q0, .inr (11, [.ref (aa 0), .ref (aa 1), .ref (aa 3), .ref (aa 14), .int 0, .null, .null, .null, .null, .null, .null])), ((aa 0), .inl ((kk 0), 5, .inl (fun _ => 0))), ((aa 1), .inr (9, [.ref (aa 2), .int 0, .int 0, .int (-1), .int 0, .int 0, .int 0, .long 0, .int 0])), ((aa 2), .inl ((kk 1), 64, .inl (fun _ => 0))), ((aa 3), .inr (1, [.int 0, .int 0, .int 0, .int 0, .int 0, .int 0, .ref (aa 4), .ref (aa 5), .ref (aa 6), .ref (aa 7), .int 0, .ref (aa 8), .ref (aa 9), .ref (aa 10), .ref (aa 11), .ref (aa 12), .ref (aa 13)])), ((aa 4), .inl ((kk 2), 8, .inl (fun _ => 0))), ((aa 5), .inl ((kk 3), 8, .inl (fun _ => 0))), ((aa 6), .inl ((kk 4), 8, .inl (fun _ => 0))), ((aa 7), .inl ((kk 5), 12, .inl (fun _ => 0))), ((aa 8), .inl ((kk 6), 12, .inl (fun _ => 0))), ((aa 9), .inl ((kk 7), 360, .inl (fun _ => 0))), ((aa 10), .inl ((kk 8), 27, .inl (fun _ => 0))), ((aa 11), .inl ((kk 9), 27, .inl (fun _ => 0))), ((aa 12), .inl ((kk 10), 3, .inl (fun _ => 0))), ((aa 13), .inl ((kk 11), 8, .inl (fun _ => 0))), ((aa 14), .inl ((kk 12), 64, .inl (fun _ => 0))), (h2, .inr (12, fM v0M))] H := hP
  have hD : va_D A [(q0, .inr (11, [.ref (aa 0), .ref (aa 1), .ref (aa 3), .ref (aa 14), .int 0, .null, .null, .null, .null, .null, .null])), ((aa 0), .inl ((kk 0), 5, .inl (fun _ => 0))), ((aa 1), .inr (9, [.ref (aa 2), .int 0, .int 0, .int (-1), .int 0, .int 0, .int 0, .long 0, .int 0])), ((aa 2), .inl ((kk 1), 64, .inl (fun _ => 0))), ((aa 3), .inr (1, [.int 0, .int 0, .int 0, .int 0, .int 0, .int 0, .ref (aa 4), .ref (aa 5), .ref (aa 6), .ref (aa 7), .int 0, .ref (aa 8), .ref (aa 9), .ref (aa 10), .ref (aa 11), .ref (aa 12), .ref (aa 13)])), ((aa 4), .inl ((kk 2), 8, .inl (fun _ => 0))), ((aa 5), .inl ((kk 3), 8, .inl (fun _ => 0))), ((aa 6), .inl ((kk 4), 8, .inl (fun _ => 0))), ((aa 7), .inl ((kk 5), 12, .inl (fun _ => 0))), ((aa 8), .inl ((kk 6), 12, .inl (fun _ => 0))), ((aa 9), .inl ((kk 7), 360, .inl (fun _ => 0))), ((aa 10), .inl ((kk 8), 27, .inl (fun _ => 0))), ((aa 11), .inl ((kk 9), 27, .inl (fun _ => 0))), ((aa 12), .inl ((kk 10), 3, .inl (fun _ => 0))), ((aa 13), .inl ((kk 11), 8, .inl (fun _ => 0))), ((aa 14), .inl ((kk 12), 64, .inl (fun _ => 0))), (h2, .inr (12, fM v0M))] := hD
  refine W.widen (k := 17) (n := 806) (by decide +kernel) (by decide +kernel) ?_
  refine lv_dup hx hb dL_law_11 rfl ?_
  have hPc : va_P (dC, dI) vwCl ([(h2, .inr (12, fM v0M))]) _ := hP.sub [16] rfl
  have hDc : va_D _ ([(h2, .inr (12, fM v0M))]) := hD.sub [16] (by decide) rfl
  have hKc : va_K (dC, dI) vwCl ([]) _ := hK.sub [] rfl
  have hFc := va_free (wc := [(h2, .inr (12, fM v0M))]) hD hS hA [16] rfl
  refine va_callv (va_runI (As := []) (rest := [.ref h2]) ⟨hx, hb, hml, hown, hts⟩ (c_X12_init l dC dI h2 H.size) (cwI 0 hts gwx_12 rfl rfl rfl (hts (.initialized RX12) (by decide +kernel)) (hts (.methodLink RL 91 yX12_init) (by decide +kernel)) (hts (.instanceMethod yX12_init) (by decide +kernel)) rfl (by decide +kernel) ⟨by decide +kernel, by decide +kernel⟩) ⟨fun a U g mk q => by obtain ⟨q0, q1, qP, qK, qD⟩ := q; exact ⟨q0, q1, qP, va_K.moved (u := U) (U := U.calling g mk a) (Vm.Alike.refl U.vm) qK, qD⟩, fun U hU9 hW => ⟨rfl, by rw [hU9], by rw [hU9]; exact hPc, va_K.moved hW.alike hKc, hDc.weaken (fun _ _ _ _ => trivial)⟩⟩ rfl rfl hl.1 rfl (lv_room (Nat.le_of_ble_eq_true rfl)) dL_law_12 (by decide +kernel)) hS (fun q _ h => hFc q h) hFc (fun u t H1 locs ht hvm hw hB hz1 hk1 hS => ?_)
  obtain ⟨av, kv⟩ := u
  obtain ⟨hP1, hK1, hD1⟩ := hB
  rw [ht] at hP1
  have hK1 := va_K.moved hvm.symm hK1
  obtain ⟨hP, hD⟩ := va_join (wr := [(q0, .inr (11, [.ref (aa 0), .ref (aa 1), .ref (aa 3), .ref (aa 14), .int 0, .null, .null, .null, .null, .null, .null])), ((aa 0), .inl ((kk 0), 5, .inl (fun _ => 0))), ((aa 1), .inr (9, [.ref (aa 2), .int 0, .int 0, .int (-1), .int 0, .int 0, .int 0, .long 0, .int 0])), ((aa 2), .inl ((kk 1), 64, .inl (fun _ => 0))), ((aa 3), .inr (1, [.int 0, .int 0, .int 0, .int 0, .int 0, .int 0, .ref (aa 4), .ref (aa 5), .ref (aa 6), .ref (aa 7), .int 0, .ref (aa 8), .ref (aa 9), .ref (aa 10), .ref (aa 11), .ref (aa 12), .ref (aa 13)])), ((aa 4), .inl ((kk 2), 8, .inl (fun _ => 0))), ((aa 5), .inl ((kk 3), 8, .inl (fun _ => 0))), ((aa 6), .inl ((kk 4), 8, .inl (fun _ => 0))), ((aa 7), .inl ((kk 5), 12, .inl (fun _ => 0))), ((aa 8), .inl ((kk 6), 12, .inl (fun _ => 0))), ((aa 9), .inl ((kk 7), 360, .inl (fun _ => 0))), ((aa 10), .inl ((kk 8), 27, .inl (fun _ => 0))), ((aa 11), .inl ((kk 9), 27, .inl (fun _ => 0))), ((aa 12), .inl ((kk 10), 3, .inl (fun _ => 0))), ((aa 13), .inl ((kk 11), 8, .inl (fun _ => 0))), ((aa 14), .inl ((kk 12), 64, .inl (fun _ => 0)))]) (w1 := wX12 av kv h2) hP hD [16] [0, 1, 2, 3, 4, 5, 6, 7, 8, 9, 10, 11, 12, 13, 14, 15] rfl rfl (by decide) (by decide) hk1 hFc hP1 hD1
  have hK := hK.app hK1
  generalize H1 = H at hP hS ⊢
  have hP : va_P (dC, dI) vwCl ([(q0, .inr (11, [.ref (aa 0), .ref (aa 1), .ref (aa 3), .ref (aa 14), .int 0, .null, .null, .null, .null, .null, .null])), ((aa 0), .inl ((kk 0), 5, .inl (fun _ => 0))), ((aa 1), .inr (9, [.ref (aa 2), .int 0, .int 0, .int (-1), .int 0, .int 0, .int 0, .long 0, .int 0])), ((aa 2), .inl ((kk 1), 64, .inl (fun _ => 0))), ((aa 3), .inr (1, [.int 0, .int 0, .int 0, .int 0, .int 0, .int 0, .ref (aa 4), .ref (aa 5), .ref (aa 6), .ref (aa 7), .int 0, .ref (aa 8), .ref (aa 9), .ref (aa 10), .ref (aa 11), .ref (aa 12), .ref (aa 13)])), ((aa 4), .inl ((kk 2), 8, .inl (fun _ => 0))), ((aa 5), .inl ((kk 3), 8, .inl (fun _ => 0))), ((aa 6), .inl ((kk 4), 8, .inl (fun _ => 0))), ((aa 7), .inl ((kk 5), 12, .inl (fun _ => 0))), ((aa 8), .inl ((kk 6), 12, .inl (fun _ => 0))), ((aa 9), .inl ((kk 7), 360, .inl (fun _ => 0))), ((aa 10), .inl ((kk 8), 27, .inl (fun _ => 0))), ((aa 11), .inl ((kk 9), 27, .inl (fun _ => 0))), ((aa 12), .inl ((kk 10), 3, .inl (fun _ => 0))), ((aa 13), .inl ((kk 11), 8, .inl (fun _ => 0))), ((aa 14), .inl ((kk 12), 64, .inl (fun _ => 0)))] ++ wX12 av kv h2) H := hP
  have hD := fz_sd hP (hD) rfl
  have hK : va_K (dC, dI) vwCl ([((kk 0), .int), ((kk 1), .byte), ((kk 2), .int), ((kk 3), .int), ((kk 4), .boolean), ((kk 5), .int), ((kk 6), .int), ((kk 7), .int), ((kk 8), .int), ((kk 9), .int), ((kk 10), .boolean), ((kk 11), .int), ((kk 12), .byte)] ++ tX12 kv) s := hK
  refine W.widen (k := 124) (n := 181433) (by decide +kernel) (by decide +kernel) ?_
  refine lv_astore_n hx hb dL_law_15 rfl hl (by decide) rfl (fun ls (hl : lv_has ls _ ([(2, .ref h2), (1, .ref q0), (0, .ref b)])) => ?_)
  refine lv_iconst (v := 1) hx hb dL_law_16 (by decide) ?_
  refine va_newa (atype := .long) (ty := .long) (N' := 1) (a0 := (1, .inr (.inl (fun _ => 0)))) hx hb (hts (.arrayClass .long) (by decide +kernel)) rfl hK hP hD hS hA (fun _ => rfl) (by decide) (by decide) (by decide +kernel) (by decide +kernel) (by decide +kernel) dL_law_17 (fun o cL H hK hP hD hS => ?_)
  have hP : va_P (dC, dI) vwCl (([(q0, .inr (11, [.ref (aa 0), .ref (aa 1), .ref (aa 3), .ref (aa 14), .int 0, .null, .null, .null, .null, .null, .null])), ((aa 0), .inl ((kk 0), 5, .inl (fun _ => 0))), ((aa 1), .inr (9, [.ref (aa 2), .int 0, .int 0, .int (-1), .int 0, .int 0, .int 0, .long 0, .int 0])), ((aa 2), .inl ((kk 1), 64, .inl (fun _ => 0))), ((aa 3), .inr (1, [.int 0, .int 0, .int 0, .int 0, .int 0, .int 0, .ref (aa 4), .ref (aa 5), .ref (aa 6), .ref (aa 7), .int 0, .ref (aa 8), .ref (aa 9), .ref (aa 10), .ref (aa 11), .ref (aa 12), .ref (aa 13)])), ((aa 4), .inl ((kk 2), 8, .inl (fun _ => 0))), ((aa 5), .inl ((kk 3), 8, .inl (fun _ => 0))), ((aa 6), .inl ((kk 4), 8, .inl (fun _ => 0))), ((aa 7), .inl ((kk 5), 12, .inl (fun _ => 0))), ((aa 8), .inl ((kk 6), 12, .inl (fun _ => 0))), ((aa 9), .inl ((kk 7), 360, .inl (fun _ => 0))), ((aa 10), .inl ((kk 8), 27, .inl (fun _ => 0))), ((aa 11), .inl ((kk 9), 27, .inl (fun _ => 0))), ((aa 12), .inl ((kk 10), 3, .inl (fun _ => 0))), ((aa 13), .inl ((kk 11), 8, .inl (fun _ => 0))), ((aa 14), .inl ((kk 12), 64, .inl (fun _ => 0)))] ++ wX12 av kv h2) ++ [(o, .inl (cL, 1, .inr (.inl (fun _ => 0))))]) H := hP
  have hD := fz_sd hP (hD) rfl
  have hK : va_K (dC, dI) vwCl (([((kk 0), .int), ((kk 1), .byte), ((kk 2), .int), ((kk 3), .int), ((kk 4), .boolean), ((kk 5), .int), ((kk 6), .int), ((kk 7), .int), ((kk 8), .int), ((kk 9), .int), ((kk 10), .boolean), ((kk 11), .int), ((kk 12), .byte)] ++ tX12 kv) ++ [(cL, .long)]) s := hK
  refine W.widen (k := 125) (n := 181434) (by decide +kernel) (by decide +kernel) ?_
  refine lv_astore_n hx hb dL_law_19 rfl hl (by decide) rfl (fun ls (hl : lv_has ls _ ([(3, .ref o), (2, .ref h2), (1, .ref q0), (0, .ref b)])) => ?_)
  refine lv_iconst (v := 0) hx hb dL_law_20 (by decide) ?_
  refine lv_istore hx hb dL_law_21 hl (by decide) rfl (fun ls (hl : lv_has ls _ ([(4, .int 0), (3, .ref o), (2, .ref h2), (1, .ref q0), (0, .ref b)])) => ?_)
  obtain ⟨cW, hcW⟩ := va_AO.cls hCE.2.2.1.2.2.2.2.2 (dC := dC) (dI := dI) hK.1
  have hK9 : va_K (dC, dI) vwCl [(kk 0, .int), (kk 1, .byte), (kk 2, .int), (kk 3, .int), (kk 4, .boolean), (kk 5, .int), (kk 6, .int), (kk 7, .int), (kk 8, .int), (kk 9, .int), (kk 10, .boolean), (kk 11, .int), (kk 12, .byte), (cL, .long), (cW, .object "OptimaWorks$Whole")] s := (hK.mem (fun q hq => List.mem_append_left _ (List.mem_append_left _ hq))).app ((hK.mem (fun q hq => List.mem_append_right _ hq)).app hcW)
  obtain ⟨Fc, Fs, hC⟩ := ClsI_start q0 aa kk (kk 0) (kk 1) cL (kk 4) cW
  have pw : ([(q0, .inr (11, [.ref (aa 0), .ref (aa 1), .ref (aa 3), .ref (aa 14), .int 0, .null, .null, .null, .null, .null, .null])), ((aa 0), .inl ((kk 0), 5, .inl (fun _ => 0))), ((aa 1), .inr (9, [.ref (aa 2), .int 0, .int 0, .int (-1), .int 0, .int 0, .int 0, .long 0, .int 0])), ((aa 2), .inl ((kk 1), 64, .inl (fun _ => 0))), ((aa 3), .inr (1, [.int 0, .int 0, .int 0, .int 0, .int 0, .int 0, .ref (aa 4), .ref (aa 5), .ref (aa 6), .ref (aa 7), .int 0, .ref (aa 8), .ref (aa 9), .ref (aa 10), .ref (aa 11), .ref (aa 12), .ref (aa 13)])), ((aa 4), .inl ((kk 2), 8, .inl (fun _ => 0))), ((aa 5), .inl ((kk 3), 8, .inl (fun _ => 0))), ((aa 6), .inl ((kk 4), 8, .inl (fun _ => 0))), ((aa 7), .inl ((kk 5), 12, .inl (fun _ => 0))), ((aa 8), .inl ((kk 6), 12, .inl (fun _ => 0))), ((aa 9), .inl ((kk 7), 360, .inl (fun _ => 0))), ((aa 10), .inl ((kk 8), 27, .inl (fun _ => 0))), ((aa 11), .inl ((kk 9), 27, .inl (fun _ => 0))), ((aa 12), .inl ((kk 10), 3, .inl (fun _ => 0))), ((aa 13), .inl ((kk 11), 8, .inl (fun _ => 0))), ((aa 14), .inl ((kk 12), 64, .inl (fun _ => 0)))] : va_W).Perm [(q0, .inr (11, [.ref (aa 0), .ref (aa 1), .ref (aa 3), .ref (aa 14), .int 0, .null, .null, .null, .null, .null, .null])), ((aa 0), .inl ((kk 0), 5, .inl (fun _ => 0))), ((aa 14), .inl ((kk 12), 64, .inl (fun _ => 0))), ((aa 1), .inr (9, [.ref (aa 2), .int 0, .int 0, .int (-1), .int 0, .int 0, .int 0, .long 0, .int 0])), ((aa 2), .inl ((kk 1), 64, .inl (fun _ => 0))), ((aa 3), .inr (1, [.int 0, .int 0, .int 0, .int 0, .int 0, .int 0, .ref (aa 4), .ref (aa 5), .ref (aa 6), .ref (aa 7), .int 0, .ref (aa 8), .ref (aa 9), .ref (aa 10), .ref (aa 11), .ref (aa 12), .ref (aa 13)])), ((aa 4), .inl ((kk 2), 8, .inl (fun _ => 0))), ((aa 5), .inl ((kk 3), 8, .inl (fun _ => 0))), ((aa 6), .inl ((kk 4), 8, .inl (fun _ => 0))), ((aa 7), .inl ((kk 5), 12, .inl (fun _ => 0))), ((aa 8), .inl ((kk 6), 12, .inl (fun _ => 0))), ((aa 9), .inl ((kk 7), 360, .inl (fun _ => 0))), ((aa 10), .inl ((kk 8), 27, .inl (fun _ => 0))), ((aa 11), .inl ((kk 9), 27, .inl (fun _ => 0))), ((aa 12), .inl ((kk 10), 3, .inl (fun _ => 0))), ((aa 13), .inl ((kk 11), 8, .inl (fun _ => 0)))] := perm_w (is := [0, 1, 15, 2, 3, 4, 5, 6, 7, 8, 9, 10, 11, 12, 13, 14]) (by decide) rfl rfl
  have pz : (([(q0, .inr (11, [.ref (aa 0), .ref (aa 1), .ref (aa 3), .ref (aa 14), .int 0, .null, .null, .null, .null, .null, .null])), ((aa 0), .inl ((kk 0), 5, .inl (fun _ => 0))), ((aa 1), .inr (9, [.ref (aa 2), .int 0, .int 0, .int (-1), .int 0, .int 0, .int 0, .long 0, .int 0])), ((aa 2), .inl ((kk 1), 64, .inl (fun _ => 0))), ((aa 3), .inr (1, [.int 0, .int 0, .int 0, .int 0, .int 0, .int 0, .ref (aa 4), .ref (aa 5), .ref (aa 6), .ref (aa 7), .int 0, .ref (aa 8), .ref (aa 9), .ref (aa 10), .ref (aa 11), .ref (aa 12), .ref (aa 13)])), ((aa 4), .inl ((kk 2), 8, .inl (fun _ => 0))), ((aa 5), .inl ((kk 3), 8, .inl (fun _ => 0))), ((aa 6), .inl ((kk 4), 8, .inl (fun _ => 0))), ((aa 7), .inl ((kk 5), 12, .inl (fun _ => 0))), ((aa 8), .inl ((kk 6), 12, .inl (fun _ => 0))), ((aa 9), .inl ((kk 7), 360, .inl (fun _ => 0))), ((aa 10), .inl ((kk 8), 27, .inl (fun _ => 0))), ((aa 11), .inl ((kk 9), 27, .inl (fun _ => 0))), ((aa 12), .inl ((kk 10), 3, .inl (fun _ => 0))), ((aa 13), .inl ((kk 11), 8, .inl (fun _ => 0))), ((aa 14), .inl ((kk 12), 64, .inl (fun _ => 0)))] ++ wX12 av kv h2) ++ [(o, .inl (cL, 1, .inr (.inl (fun _ => 0))))] : va_W).Perm ((o, .inl (cL, 1, .inr (.inl (fun _ => 0)))) :: ([(q0, .inr (11, [.ref (aa 0), .ref (aa 1), .ref (aa 3), .ref (aa 14), .int 0, .null, .null, .null, .null, .null, .null])), ((aa 0), .inl ((kk 0), 5, .inl (fun _ => 0))), ((aa 14), .inl ((kk 12), 64, .inl (fun _ => 0))), ((aa 1), .inr (9, [.ref (aa 2), .int 0, .int 0, .int (-1), .int 0, .int 0, .int 0, .long 0, .int 0])), ((aa 2), .inl ((kk 1), 64, .inl (fun _ => 0))), ((aa 3), .inr (1, [.int 0, .int 0, .int 0, .int 0, .int 0, .int 0, .ref (aa 4), .ref (aa 5), .ref (aa 6), .ref (aa 7), .int 0, .ref (aa 8), .ref (aa 9), .ref (aa 10), .ref (aa 11), .ref (aa 12), .ref (aa 13)])), ((aa 4), .inl ((kk 2), 8, .inl (fun _ => 0))), ((aa 5), .inl ((kk 3), 8, .inl (fun _ => 0))), ((aa 6), .inl ((kk 4), 8, .inl (fun _ => 0))), ((aa 7), .inl ((kk 5), 12, .inl (fun _ => 0))), ((aa 8), .inl ((kk 6), 12, .inl (fun _ => 0))), ((aa 9), .inl ((kk 7), 360, .inl (fun _ => 0))), ((aa 10), .inl ((kk 8), 27, .inl (fun _ => 0))), ((aa 11), .inl ((kk 9), 27, .inl (fun _ => 0))), ((aa 12), .inl ((kk 10), 3, .inl (fun _ => 0))), ((aa 13), .inl ((kk 11), 8, .inl (fun _ => 0)))] ++ wX12 av kv h2)) := (List.perm_append_singleton _ _).trans (List.Perm.cons _ (List.Perm.append_right _ pw))
  refine W.known (fun z1 z2 => ?_)
  exact lw_loop l hst hLs C0 dC dI (fun j => ([kk 0, kk 12] : List ClassId).getD j (kk 0)) (fun j => ([kk 1] : List ClassId).getD j (kk 0)) (fun j => ([kk 2, kk 3, kk 4, kk 5, kk 6, kk 7, kk 8, kk 9, kk 10, kk 11] : List ClassId).getD j (kk 0)) (fun j => ([(kk 0), (kk 0), (kk 0), (kk 0), (kk 0), (kk 0), (kk 0), (kk 0), (kk 0), cL, cL, (kk 0), (kk 0), cL] : List ClassId).getD j (kk 0)) (fun j => ([(kk 0), (kk 0), (kk 0), (kk 0), (kk 0)] : List ClassId).getD j (kk 0)) (fun j => ([(kk 0), (kk 0), (kk 0), (kk 0), (kk 0), (kk 0), (kk 0), (kk 0), (kk 0), (kk 0), (kk 0)] : List ClassId).getD j (kk 0)) (fun j => ([cL] : List ClassId).getD j (kk 0)) (fun j => ([cL, (kk 0), (kk 0), (kk 0), (kk 0), (kk 0), (kk 0), cL, cL, (kk 0)] : List ClassId).getD j (kk 0)) (fun j => ([(kk 0)] : List ClassId).getD j (kk 0)) (fun j => ([(kk 0), cL, cL, (kk 0), (kk 0), (kk 0), cW, cW, cW, cW] : List ClassId).getD j (kk 0)) (fun j => ([cW, (kk 0), (kk 0), (kk 4)] : List ClassId).getD j (kk 0)) (fun j => ([(kk 4), cW, cW, (kk 0), (kk 0)] : List ClassId).getD j (kk 0)) cL kv cL (E0 := ⟨hA, hA2, hCE, hSA, hNc, tau_start hK9, hK.mem (fun q hq => List.mem_append_left _ (List.mem_append_right _ hq)), hK.mem (fun q hq => List.mem_append_right _ hq)⟩) Ls 0 H _ ls _ _ (by omega) (by omega) ⟨(0, ntZ, clZ, vlZ), 0, Fc, Fs, _, _, fun _ => 0, hC, RefI_start av kv h2, Nat.zero_le _, hP.mem (fun q hq => pz.mem_iff.mpr hq), hD.perm pz, hS, by omega, by omega⟩ hl
end

/-! The law's cases: one call of each -/
section RELQ
variable {V : q_En} {h : q_H} {z : Option Nat} {Kx : q_KX}
theorem q_budle {y : q_I} {pc : Nat} {ls : List (Option Value)} {st : List Value} {bc bs bc' bs' : Nat} {Kr : q_KR} (e1 : bc' ≤ bc) (e2 : bs' ≤ bs) (kk : QW V y pc ls st h z bc' bs' Kr Kx) : QW V y pc ls st h z bc bs Kr Kx :=
  fun p e R s m args below meth c H locs cells slots l0 Q C hR hL hS hc hs hF => kk p e R s m args below meth c H locs cells slots l0 Q C hR hL hS (by omega) (by omega) hF
theorem isM.oo {a : Nat} {M : q_Mo} {h' : q_H} (hM : isM h a M) (e : ∀ q, a ≤ q → q < a + 13 → h' q = h q) : isM h' a M :=
  ⟨by rw [e a (by omega) (by omega)]; exact hM.1, fun k hk => by rw [e (a + k) (by omega) (by omega)]; exact hM.2.1 k hk, fun k hk => by rw [e (a + k) (by omega) (by omega)]; exact hM.2.2 k hk⟩
/-- what holds at the head of the law's loop, behind c calls -/
def LI (h : q_H) (L c : Nat) : Prop := ∃ S M f g, isL h L S ∧ isM h (L + 741) M ∧ h (L + 754) = some (.inl (2, 1, .inr (.inl f))) ∧ h (L + 755) = some (.inl (3, 1, .inr (.inr (.inr (.inl g))))) ∧ Rel S M c
abbrev lawls (V : q_En) (L : Nat) (i : Int32) (a6 a7 a8 : Option Value) : List (Option Value) := [some (.ref (e_sb V)), some (.ref L), some (.ref (L + 741)), some (.ref (L + 754)), some (.ref (L + 755)), some (.int i), a6, a7, a8]
theorem law_go {L c : Nat} {i : Int32} {a6 a7 a8 : Option Value} {bc bs : Nat} {Kr : q_KR} (hk : ∀ h2 z2, LI h2 L (c + 1) → QW V iL_law 2751 (lawls V L i none none none) [] h2 z2 bc bs Kr Kx) (hI : LI h L (c + 1)) : QW V iL_law 2751 (lawls V L i a6 a7 a8) [] h z bc bs Kr Kx := by
  refine q_less (lawls V L i none none none) rfl (fun k v e => ?_) (hk h z hI)
  match k, e with
  | 0, e => exact e
  | 1, e => exact e
  | 2, e => exact e
  | 3, e => exact e
  | 4, e => exact e
  | 5, e => exact e
  | 6, e => have e2 : (none : Option Value) = some v := Option.some.inj e; cases e2
  | 7, e => have e2 : (none : Option Value) = some v := Option.some.inj e; cases e2
  | 8, e => have e2 : (none : Option Value) = some v := Option.some.inj e; cases e2
  | k + 9, e => have e2 : (none : Option (Option Value)) = some (some v) := e; cases e2
theorem Rel.htm {S : q_Ls} {M : q_Mo} {c : Nat} (hR : Rel S M c) : ∀ i, i < 24 → pl_has (b_p (ls_B S) i) = true → ∃ j, j < 4 ∧ p_t (b_p (ls_B S) i) = nI j := fun i hi hh => by
  obtain ⟨h1, h2, h4, h5, h6, h7, h8⟩ := hR
  by_cases hl : ls_l S = true
  · obtain ⟨nt, np, nb, w, hE, hB, hH⟩ := h7 hl
    obtain ⟨-, ⟨j, hj, ej⟩, -⟩ := (hB.1.p hi).2.2.2 hh
    exact ⟨j, by have := hE.1; omega, ej⟩
  · have hf : ls_l S = false := by
      cases z : ls_l S
      · rfl
      · exact absurd z hl
    rw [h8 hf i hi] at hh; cases hh
theorem law_append {L c bc bs : Nat} {Kr : q_KR} (hI : LI h L c) (hc : c < 512) (hj : 6 * c + 6 ≤ e_sL V) (hn : e_sL V ≤ 3072) (hk : ∀ h2 z2, LI h2 L (c + 1) → QW V iL_law 2751 (lawls V L (nI (6 * c)) none none none) [] h2 z2 bc bs Kr Kx) : QW V iL_law 216 (lawls V L (nI (6 * c)) none none none) [] h z (bc + 6) (bs + 36) Kr Kx := by
  obtain ⟨S, M, f, g, hL, hM, ho, hd, hR⟩ := hI
  refine q_budle (bc' := bc + 1) (bs' := bs + 6) (by omega) (by omega) ?_
  refine wL_law_216 ?_
  refine wL_law_217 ?_
  refine wL_law_218 ?_
  refine wL_law_220 ?_
  refine wL_law_221 ?_
  refine wL_law_222 (j := 6 * c + 1) (nI_add _ 1) (by omega) (by omega) ?_
  refine wL_law_223 ?_
  refine wL_law_224 ?_
  refine wL_law_226 ?_
  refine wL_law_227 ?_
  refine wL_law_228 (j := 6 * c + 2) (nI_add _ 2) (by omega) (by omega) ?_
  refine wL_law_229 ?_
  refine wL_law_230 ?_
  refine wL_law_232 ?_
  refine wL_law_233 ?_
  refine wL_law_234 (j := 6 * c + 3) (nI_add _ 3) (by omega) (by omega) ?_
  refine wL_law_235 ?_
  refine wL_law_236 ?_
  refine wL_law_238 ?_
  refine wL_law_239 ?_
  refine wL_law_240 (j := 6 * c + 4) (nI_add _ 4) (by omega) (by omega) ?_
  refine wL_law_241 ?_
  refine wL_law_242 ?_
  refine wL_law_244 ?_
  refine wL_law_245 ?_
  refine wL_law_246 (j := 6 * c + 5) (nI_add _ 5) (by omega) (by omega) ?_
  refine wL_law_247 ?_
  refine wL_law_248 (sL_append hL hR.1 ho (by omega) (fun k v S' h2 f2 z2 hO hL2 hc2 hv hq => ?_))
  have hM2 : isM h2 (L + 741) M := hM.oo (fun q a1 a2 => hq q (Or.inr (by omega)) (by omega))
  have ho2 := hc2
  have hd2 := (hq (L + 755) (Or.inr (by omega)) (by omega)).trans hd
  refine wL_law_251 ?_
  refine wL_law_253 ?_
  refine wL_law_254 ?_
  refine wL_law_255 ?_
  refine wL_law_257 ?_
  refine wL_law_258 ?_
  refine wL_law_259 (j := 6 * c + 1) (nI_add _ 1) (by omega) (by omega) ?_
  refine wL_law_260 ?_
  refine wL_law_261 ?_
  refine wL_law_263 ?_
  refine wL_law_264 ?_
  refine wL_law_265 (j := 6 * c + 2) (nI_add _ 2) (by omega) (by omega) ?_
  refine wL_law_266 ?_
  refine wL_law_267 ?_
  refine wL_law_269 ?_
  refine wL_law_270 ?_
  refine wL_law_271 (j := 6 * c + 3) (nI_add _ 3) (by omega) (by omega) ?_
  refine wL_law_272 ?_
  refine wL_law_273 ?_
  refine wL_law_275 ?_
  refine wL_law_276 ?_
  refine wL_law_277 (j := 6 * c + 4) (nI_add _ 4) (by omega) (by omega) ?_
  refine wL_law_278 ?_
  refine wL_law_279 ?_
  refine wL_law_281 ?_
  refine wL_law_282 ?_
  refine wL_law_283 (j := 6 * c + 5) (nI_add _ 5) (by omega) (by omega) ?_
  refine wL_law_284 hM2.c (sX9_append hR (by omega) hM2 hO (fun h3 M2 b hM3 hq3 e4 hb hR2 => ?_))
  have hL3 := hL2.o hq3 (Or.inl (Nat.le_refl _))
  have ho3 := (hq3 (L + 754) (Or.inr (by omega))).trans ho2
  have hd3 := (hq3 (L + 755) (Or.inr (by omega))).trans hd2
  refine wL_law_287 ?_
  refine wL_law_289 ?_
  refine wL_law_290 hM3.c (mX9_thrown hM3 ?_)
  refine wL_law_293 ?_
  refine wL_law_295 (fun c295 => ?_) (fun c295 => absurd e4 c295)
  refine wL_law_300 ?_
  refine wL_law_302 (fun c302 => ?_) (fun c302 => ?_)
  · refine wL_law_317 ?_
    exact law_go hk ⟨_, _, _, _, hL3, hM3, ho3, hd3, hR2⟩
  · refine wL_law_305 ?_
    refine wL_law_306 ?_
    refine wL_law_307 ho3 (j := 0) rfl (by decide) (by decide) ?_
    refine wL_law_308 ?_
    refine wL_law_310 ?_
    refine wL_law_311 (fun c311 => ?_) (fun c311 => absurd ((hv c302).trans (hb c302).symm) c311)
    refine wL_law_317 ?_
    exact law_go hk ⟨_, _, _, _, hL3, hM3, ho3, hd3, hR2⟩
theorem law_truncate {L c bc bs : Nat} {Kr : q_KR} (hI : LI h L c) (hc : c < 512) (hj : 6 * c + 6 ≤ e_sL V) (hn : e_sL V ≤ 3072) (hk : ∀ h2 z2, LI h2 L (c + 1) → QW V iL_law 2751 (lawls V L (nI (6 * c)) none none none) [] h2 z2 bc bs Kr Kx) : QW V iL_law 320 (lawls V L (nI (6 * c)) none none none) [] h z (bc + 6) (bs + 36) Kr Kx := by
  obtain ⟨S, M, f, g, hL, hM, ho, hd, hR⟩ := hI
  refine q_budle (bc' := bc + 1) (bs' := bs + 6) (by omega) (by omega) ?_
  refine wL_law_320 ?_
  refine wL_law_321 ?_
  refine wL_law_322 ?_
  refine wL_law_324 ?_
  refine wL_law_325 ?_
  refine wL_law_326 (j := 6 * c + 1) (nI_add _ 1) (by omega) (by omega) ?_
  refine wL_law_327 ?_
  refine wL_law_328 (sL_truncate hL hR.1 ho (by omega) (fun k v S' h2 f2 z2 hO hL2 hc2 hv hq => ?_))
  have hM2 : isM h2 (L + 741) M := hM.oo (fun q a1 a2 => hq q (Or.inr (by omega)) (by omega))
  have ho2 := hc2
  have hd2 := (hq (L + 755) (Or.inr (by omega)) (by omega)).trans hd
  refine wL_law_331 ?_
  refine wL_law_333 ?_
  refine wL_law_334 ?_
  refine wL_law_335 ?_
  refine wL_law_337 ?_
  refine wL_law_338 ?_
  refine wL_law_339 (j := 6 * c + 1) (nI_add _ 1) (by omega) (by omega) ?_
  refine wL_law_340 hM2.c (sX9_truncate hR (by omega) hM2 hO (fun h3 M2 b hM3 hq3 e4 hb hR2 => ?_))
  have hL3 := hL2.o hq3 (Or.inl (Nat.le_refl _))
  have ho3 := (hq3 (L + 754) (Or.inr (by omega))).trans ho2
  have hd3 := (hq3 (L + 755) (Or.inr (by omega))).trans hd2
  refine wL_law_343 ?_
  refine wL_law_345 ?_
  refine wL_law_346 hM3.c (mX9_thrown hM3 ?_)
  refine wL_law_349 ?_
  refine wL_law_351 (fun c351 => ?_) (fun c351 => absurd e4 c351)
  refine wL_law_356 ?_
  refine wL_law_358 (fun c358 => ?_) (fun c358 => ?_)
  · refine wL_law_373 ?_
    exact law_go hk ⟨_, _, _, _, hL3, hM3, ho3, hd3, hR2⟩
  · refine wL_law_361 ?_
    refine wL_law_362 ?_
    refine wL_law_363 ho3 (j := 0) rfl (by decide) (by decide) ?_
    refine wL_law_364 ?_
    refine wL_law_366 ?_
    refine wL_law_367 (fun c367 => ?_) (fun c367 => absurd ((hv c358).trans (hb c358).symm) c367)
    refine wL_law_373 ?_
    exact law_go hk ⟨_, _, _, _, hL3, hM3, ho3, hd3, hR2⟩
theorem mX9_loadG {a : Nat} {M : q_Mo} {f : Nat → Int32} {L : Nat} {r R : q_Rd} {T : q_Te} {B : q_Bk} {P : Int32 → q_H → Option Nat → Prop} (eR : rd_tR f L r T B = R) (hM : isM h a M) (hL : L ≤ 900) (hn : M.1 16 = nI L) (htx : ∀ k, k < L → bt (f k) ∧ M.2.2 5 k = f k &&& 255) (hk1 : ¬ R.ec = 0 → ∀ h2 M2, isM h2 a M2 → q_lf M M2 → M2.1 16 = 0 → M2.1 4 = 0 → M2.1 23 = R.ea → q_out a 13 h h2 → P (-10 - R.ec) h2 z) (hk2 : R.ec = 0 → ∀ h2 M2 f3 f4 r9 nt np nb, ld_ok M M2 f L r T nt np nb → cpB M2 (rd_cl f (rd_tT f L r T) (L + 1) (rd_t5 f L r T) (b_clr B)).2 nt np → q_lf M M2 → M2.1 16 = 0 → M2.1 4 = 0 → M2.1 23 = R.ea → (∀ c, c < nb → f3 c = M2.2.2 7 (2 * c) ∧ f4 c = M2.2.2 7 (2 * c + 1)) → (∀ i, i < 386 → r9 i = tk_at (M2.2.2 8) (M2.2.2 6 3) i) → isM h2 a (mLr (m34 (tk_S M2) f3 f4) 1 r9) → q_out a 13 h h2 → P R.ct h2 z) : QMi V iX9_load [.ref a] h z P Kx := by
  subst eR
  exact mX9_load hM hL hn htx hk1 hk2
theorem Rel.lkG {S : q_Ls} {M M2 : q_Mo} {c : Nat} {f : Nat → Int32} {L : Nat} {r : q_Rd} {T T' : q_Te} {B B' : q_Bk} {ea : Int32} {f3 f4 : Nat → Int32} {r9 : Nat → Int64} {nt np nb : Nat} (eT : rd_tT f L r T = T') (eB : rd_tB f L r T B = B') (ok : ld_ok M M2 f L r T nt np nb) (cp : cpB M2 (rd_cl f (rd_tT f L r T) (L + 1) (rd_t5 f L r T) (b_clr B)).2 nt np) (h16 : M2.1 16 = 0) (h23 : M2.1 23 = ea)
    (h34 : ∀ c, c < nb → f3 c = M2.2.2 7 (2 * c) ∧ f4 c = M2.2.2 7 (2 * c + 1)) (h9 : ∀ i, i < 386 → r9 i = tk_at (M2.2.2 8) (M2.2.2 6 3) i) :
    Rel (0, ls_f S, ea, true, T', B', hs_for (ls_H S)) (mLr (m34 (tk_S M2) f3 f4) 1 r9) c := by
  subst eT
  subst eB
  exact Rel.lk ok cp h16 h23 h34 h9
theorem law_load {L c bc bs : Nat} {Kr : q_KR} (hI : LI h L c) (hc : c < 512) (hj : 6 * c + 6 ≤ e_sL V) (hn : e_sL V ≤ 3072) (hk : ∀ h2 z2, LI h2 L (c + 1) → QW V iL_law 2751 (lawls V L (nI (6 * c)) none none none) [] h2 z2 bc bs Kr Kx) : QW V iL_law 376 (lawls V L (nI (6 * c)) none none none) [] h z (bc + 6) (bs + 36) Kr Kx := by
  obtain ⟨S, M, f, g, hL, hM, ho, hd, hR⟩ := hI
  refine q_budle (bc' := bc) (bs' := bs) (by omega) (by omega) ?_
  obtain ⟨X, hX⟩ := hL
  refine wL_law_376 ?_
  refine wL_law_377 hX.c (mX8_load hX hR.1 (fun r er eb h2 hL2 hq => ?_) (fun r T B er eT eB eb h2 hL2 hq => ?_))
  · have hM2 : isM h2 (L + 741) M := hM.oo (fun q a1 a2 => hq q (Or.inr (by omega)))
    have ho2 := (hq (L + 754) (Or.inr (by omega))).trans ho
    have hd2 := (hq (L + 755) (Or.inr (by omega))).trans hd
    refine wL_law_380 ?_
    refine wL_law_381 hM2.c (mX9_loadG (f := ls_f S) (L := ls_n S) (r := X.2.1) (T := X.2.2.2.1) (B := X.2.2.2.2) er hM2 hR.1.1 hR.2.1.1 hR.2.1.2 (fun ec h3 M2 hM3 lf h16 h4 h23 hq3 => ?_) (fun ec h3 M2 f3 f4 r9 nt np nb ok cp lf h16 h4 h23 h34 h9 hM3 hq3 => ?_))
    · have hL3 := hL2.o hq3 (Or.inl (Nat.le_refl _))
      have ho3 := (hq3 (L + 754) (Or.inr (by omega))).trans ho2
      have hd3 := (hq3 (L + 755) (Or.inr (by omega))).trans hd2
      refine wL_law_384 (fun _ => ?_) (fun q => absurd rfl q)
      exact law_go hk ⟨_, _, _, _, hL3, hM3, ho3, hd3, hR.lf lf h16 h23⟩
    · exact absurd ec (of_decide_eq_true eb)
  · have hM2 : isM h2 (L + 741) M := hM.oo (fun q a1 a2 => hq q (Or.inr (by omega)))
    have ho2 := (hq (L + 754) (Or.inr (by omega))).trans ho
    have hd2 := (hq (L + 755) (Or.inr (by omega))).trans hd
    refine wL_law_380 ?_
    refine wL_law_381 hM2.c (mX9_loadG (f := ls_f S) (L := ls_n S) (r := X.2.1) (T := X.2.2.2.1) (B := X.2.2.2.2) er hM2 hR.1.1 hR.2.1.1 hR.2.1.2 (fun ec h3 M2 hM3 lf h16 h4 h23 hq3 => ?_) (fun ec h3 M2 f3 f4 r9 nt np nb ok cp lf h16 h4 h23 h34 h9 hM3 hq3 => ?_))
    · exact absurd (of_decide_eq_false eb) (fun q => q ec)
    · have hL3 := hL2.o hq3 (Or.inl (Nat.le_refl _))
      have ho3 := (hq3 (L + 754) (Or.inr (by omega))).trans ho2
      have hd3 := (hq3 (L + 755) (Or.inr (by omega))).trans hd2
      refine wL_law_384 (fun _ => ?_) (fun q => absurd rfl q)
      exact law_go hk ⟨_, _, _, _, hL3, hM3, ho3, hd3, Rel.lkG eT eB ok cp h16 h23 h34 h9⟩
theorem law_errorPosition {L c bc bs : Nat} {Kr : q_KR} (hI : LI h L c) (hc : c < 512) (hj : 6 * c + 6 ≤ e_sL V) (hn : e_sL V ≤ 3072) (hk : ∀ h2 z2, LI h2 L (c + 1) → QW V iL_law 2751 (lawls V L (nI (6 * c)) none none none) [] h2 z2 bc bs Kr Kx) : QW V iL_law 389 (lawls V L (nI (6 * c)) none none none) [] h z (bc + 6) (bs + 36) Kr Kx := by
  obtain ⟨S, M, f, g, hL, hM, ho, hd, hR⟩ := hI
  refine q_budle (bc' := bc) (bs' := bs) (by omega) (by omega) ?_
  obtain ⟨X, hX⟩ := hL
  refine wL_law_389 ?_
  refine wL_law_390 hX.c (mX8_errorPosition hX ?_)
  refine wL_law_393 ?_
  refine wL_law_394 hM.c (mX9_errorPosition hM (fun h3 hM3 hq3 => ?_))
  refine wL_law_397 (fun c397 => ?_) (fun c397 => absurd hR.2.2.1.symm c397)
  exact law_go hk ⟨_, _, _, _, isL.o ⟨X, hX⟩ hq3 (Or.inl (Nat.le_refl _)), hM3, (hq3 (L + 754) (Or.inr (by omega))).trans ho, (hq3 (L + 755) (Or.inr (by omega))).trans hd, hR.s4 0⟩
theorem law_makeOffer {L c bc bs : Nat} {Kr : q_KR} (hI : LI h L c) (hc : c < 512) (hj : 6 * c + 6 ≤ e_sL V) (hn : e_sL V ≤ 3072) (hk : ∀ h2 z2, LI h2 L (c + 1) → QW V iL_law 2751 (lawls V L (nI (6 * c)) none none none) [] h2 z2 bc bs Kr Kx) : QW V iL_law 402 (lawls V L (nI (6 * c)) none none none) [] h z (bc + 6) (bs + 36) Kr Kx := by
  obtain ⟨S, M, f, g, hL, hM, ho, hd, hR⟩ := hI
  refine q_budle (bc' := bc + 6) (bs' := bs + 36) (by omega) (by omega) ?_
  refine wL_law_402 ?_
  refine wL_law_403 ?_
  refine wL_law_404 ?_
  refine wL_law_406 ?_
  refine wL_law_407 ?_
  refine wL_law_408 (j := 6 * c + 1) (nI_add _ 1) (by omega) (by omega) ?_
  refine wL_law_409 ?_
  refine wL_law_410 ?_
  refine wL_law_412 ?_
  refine wL_law_413 ?_
  refine wL_law_414 (j := 6 * c + 2) (nI_add _ 2) (by omega) (by omega) ?_
  refine wL_law_415 ?_
  refine wL_law_416 ?_
  refine wL_law_418 ?_
  refine wL_law_419 ?_
  refine wL_law_420 (j := 6 * c + 3) (nI_add _ 3) (by omega) (by omega) ?_
  refine wL_law_421 ?_
  refine wL_law_422 ?_
  refine wL_law_424 ?_
  refine wL_law_425 ?_
  refine wL_law_426 (j := 6 * c + 4) (nI_add _ 4) (by omega) (by omega) ?_
  refine wL_law_427 ?_
  refine wL_law_428 ?_
  refine wL_law_430 ?_
  refine wL_law_431 ?_
  refine wL_law_432 (j := 6 * c + 5) (nI_add _ 5) (by omega) (by omega) ?_
  refine wL_law_433 ?_
  refine wL_law_434 (sL_makeOffer hL hR.1 ho (by omega) (fun k v S' h2 f2 z2 hO hL2 hc2 hv hq => ?_))
  have hM2 : isM h2 (L + 741) M := hM.oo (fun q a1 a2 => hq q (Or.inr (by omega)) (by omega))
  have ho2 := hc2
  have hd2 := (hq (L + 755) (Or.inr (by omega)) (by omega)).trans hd
  refine wL_law_437 ?_
  refine wL_law_439 ?_
  refine wL_law_440 ?_
  refine wL_law_441 ?_
  refine wL_law_443 ?_
  refine wL_law_444 ?_
  refine wL_law_445 (j := 6 * c + 1) (nI_add _ 1) (by omega) (by omega) ?_
  refine wL_law_446 ?_
  refine wL_law_447 ?_
  refine wL_law_449 ?_
  refine wL_law_450 ?_
  refine wL_law_451 (j := 6 * c + 2) (nI_add _ 2) (by omega) (by omega) ?_
  refine wL_law_452 ?_
  refine wL_law_453 ?_
  refine wL_law_455 ?_
  refine wL_law_456 ?_
  refine wL_law_457 (j := 6 * c + 3) (nI_add _ 3) (by omega) (by omega) ?_
  refine wL_law_458 ?_
  refine wL_law_459 ?_
  refine wL_law_461 ?_
  refine wL_law_462 ?_
  refine wL_law_463 (j := 6 * c + 4) (nI_add _ 4) (by omega) (by omega) ?_
  refine wL_law_464 ?_
  refine wL_law_465 ?_
  refine wL_law_467 ?_
  refine wL_law_468 ?_
  refine wL_law_469 (j := 6 * c + 5) (nI_add _ 5) (by omega) (by omega) ?_
  refine wL_law_470 hM2.c (sX9_makeOffer hR (by omega) hM2 hO (fun h3 M2 b hM3 hq3 e4 hb hR2 => ?_))
  have hL3 := hL2.o hq3 (Or.inl (Nat.le_refl _))
  have ho3 := (hq3 (L + 754) (Or.inr (by omega))).trans ho2
  have hd3 := (hq3 (L + 755) (Or.inr (by omega))).trans hd2
  refine wL_law_473 ?_
  refine wL_law_475 ?_
  refine wL_law_476 hM3.c (mX9_thrown hM3 ?_)
  refine wL_law_479 ?_
  refine wL_law_481 (fun c481 => ?_) (fun c481 => absurd e4 c481)
  refine wL_law_486 ?_
  refine wL_law_488 (fun c488 => ?_) (fun c488 => ?_)
  · refine wL_law_503 ?_
    exact law_go hk ⟨_, _, _, _, hL3, hM3, ho3, hd3, hR2⟩
  · refine wL_law_491 ?_
    refine wL_law_492 ?_
    refine wL_law_493 ho3 (j := 0) rfl (by decide) (by decide) ?_
    refine wL_law_494 ?_
    refine wL_law_496 ?_
    refine wL_law_497 (fun c497 => ?_) (fun c497 => absurd ((hv c488).trans (hb c488).symm) c497)
    refine wL_law_503 ?_
    exact law_go hk ⟨_, _, _, _, hL3, hM3, ho3, hd3, hR2⟩
theorem law_sign {L c bc bs : Nat} {Kr : q_KR} (hI : LI h L c) (hc : c < 512) (hj : 6 * c + 6 ≤ e_sL V) (hn : e_sL V ≤ 3072) (hk : ∀ h2 z2, LI h2 L (c + 1) → QW V iL_law 2751 (lawls V L (nI (6 * c)) none none none) [] h2 z2 bc bs Kr Kx) : QW V iL_law 506 (lawls V L (nI (6 * c)) none none none) [] h z (bc + 6) (bs + 36) Kr Kx := by
  obtain ⟨S, M, f, g, hL, hM, ho, hd, hR⟩ := hI
  refine q_budle (bc' := bc + 4) (bs' := bs + 24) (by omega) (by omega) ?_
  refine wL_law_506 ?_
  refine wL_law_507 ?_
  refine wL_law_508 ?_
  refine wL_law_510 ?_
  refine wL_law_511 ?_
  refine wL_law_512 (j := 6 * c + 1) (nI_add _ 1) (by omega) (by omega) ?_
  refine wL_law_513 ?_
  refine wL_law_514 ?_
  refine wL_law_516 ?_
  refine wL_law_517 ?_
  refine wL_law_518 (j := 6 * c + 2) (nI_add _ 2) (by omega) (by omega) ?_
  refine wL_law_519 ?_
  refine wL_law_520 ?_
  refine wL_law_522 ?_
  refine wL_law_523 ?_
  refine wL_law_524 (j := 6 * c + 3) (nI_add _ 3) (by omega) (by omega) ?_
  refine wL_law_525 ?_
  refine wL_law_526 (sL_sign hL hR.1 ho (by omega) (fun k v S' h2 f2 z2 hO hL2 hc2 hv hq => ?_))
  have hM2 : isM h2 (L + 741) M := hM.oo (fun q a1 a2 => hq q (Or.inr (by omega)) (by omega))
  have ho2 := hc2
  have hd2 := (hq (L + 755) (Or.inr (by omega)) (by omega)).trans hd
  refine wL_law_529 ?_
  refine wL_law_531 ?_
  refine wL_law_532 ?_
  refine wL_law_533 ?_
  refine wL_law_535 ?_
  refine wL_law_536 ?_
  refine wL_law_537 (j := 6 * c + 1) (nI_add _ 1) (by omega) (by omega) ?_
  refine wL_law_538 ?_
  refine wL_law_539 ?_
  refine wL_law_541 ?_
  refine wL_law_542 ?_
  refine wL_law_543 (j := 6 * c + 2) (nI_add _ 2) (by omega) (by omega) ?_
  refine wL_law_544 ?_
  refine wL_law_545 ?_
  refine wL_law_547 ?_
  refine wL_law_548 ?_
  refine wL_law_549 (j := 6 * c + 3) (nI_add _ 3) (by omega) (by omega) ?_
  refine wL_law_550 hM2.c (sX9_sign hR (by omega) hM2 hO (fun h3 M2 b hM3 hq3 e4 hb hR2 => ?_))
  have hL3 := hL2.o hq3 (Or.inl (Nat.le_refl _))
  have ho3 := (hq3 (L + 754) (Or.inr (by omega))).trans ho2
  have hd3 := (hq3 (L + 755) (Or.inr (by omega))).trans hd2
  refine wL_law_553 ?_
  refine wL_law_555 ?_
  refine wL_law_556 hM3.c (mX9_thrown hM3 ?_)
  refine wL_law_559 ?_
  refine wL_law_561 (fun c561 => ?_) (fun c561 => absurd e4 c561)
  refine wL_law_566 ?_
  refine wL_law_568 (fun c568 => ?_) (fun c568 => ?_)
  · refine wL_law_583 ?_
    exact law_go hk ⟨_, _, _, _, hL3, hM3, ho3, hd3, hR2⟩
  · refine wL_law_571 ?_
    refine wL_law_572 ?_
    refine wL_law_573 ho3 (j := 0) rfl (by decide) (by decide) ?_
    refine wL_law_574 ?_
    refine wL_law_576 ?_
    refine wL_law_577 (fun c577 => ?_) (fun c577 => absurd ((hv c568).trans (hb c568).symm) c577)
    refine wL_law_583 ?_
    exact law_go hk ⟨_, _, _, _, hL3, hM3, ho3, hd3, hR2⟩
theorem law_release {L c bc bs : Nat} {Kr : q_KR} (hI : LI h L c) (hc : c < 512) (hj : 6 * c + 6 ≤ e_sL V) (hn : e_sL V ≤ 3072) (hk : ∀ h2 z2, LI h2 L (c + 1) → QW V iL_law 2751 (lawls V L (nI (6 * c)) none none none) [] h2 z2 bc bs Kr Kx) : QW V iL_law 586 (lawls V L (nI (6 * c)) none none none) [] h z (bc + 6) (bs + 36) Kr Kx := by
  obtain ⟨S, M, f, g, hL, hM, ho, hd, hR⟩ := hI
  refine q_budle (bc' := bc + 2) (bs' := bs + 12) (by omega) (by omega) ?_
  by_cases hx : e_xs V (6 * c + 2) = 0
  · refine wL_law_586 ?_
    refine wL_law_587 ?_
    refine wL_law_588 ?_
    refine wL_law_590 ?_
    refine wL_law_591 ?_
    refine wL_law_592 (j := 6 * c + 1) (nI_add _ 1) (by omega) (by omega) ?_
    refine wL_law_593 ?_
    refine wL_law_594 ?_
    refine wL_law_596 ?_
    refine wL_law_597 ?_
    refine wL_law_598 (j := 6 * c + 2) (nI_add _ 2) (by omega) (by omega) ?_
    refine wL_law_599 (fun c599 => ?_) (fun c599 => absurd hx c599)
    refine wL_law_606 ?_
    refine wL_law_607 ?_
    refine wL_law_608 (sL_release hL hR.1 hR.htm ho (by omega) (fun k v S' h2 f2 z2 hO hL2 hc2 hv hq => ?_))
    have hM2 : isM h2 (L + 741) M := hM.oo (fun q a1 a2 => hq q (Or.inr (by omega)) (by omega))
    have ho2 := hc2
    have hd2 := (hq (L + 755) (Or.inr (by omega)) (by omega)).trans hd
    refine wL_law_611 ?_
    refine wL_law_613 ?_
    refine wL_law_614 ?_
    refine wL_law_615 ?_
    refine wL_law_617 ?_
    refine wL_law_618 ?_
    refine wL_law_619 (j := 6 * c + 1) (nI_add _ 1) (by omega) (by omega) ?_
    refine wL_law_620 ?_
    refine wL_law_621 ?_
    refine wL_law_623 ?_
    refine wL_law_624 ?_
    refine wL_law_625 (j := 6 * c + 2) (nI_add _ 2) (by omega) (by omega) ?_
    refine wL_law_626 (fun c626 => ?_) (fun c626 => absurd hx c626)
    refine wL_law_633 ?_
    refine wL_law_634 hM2.c (sX9_release hR (by omega) hM2 hO (fun h3 M2 b hM3 hq3 e4 hb hR2 => ?_))
    have hL3 := hL2.o hq3 (Or.inl (Nat.le_refl _))
    have ho3 := (hq3 (L + 754) (Or.inr (by omega))).trans ho2
    have hd3 := (hq3 (L + 755) (Or.inr (by omega))).trans hd2
    refine wL_law_637 ?_
    refine wL_law_639 ?_
    refine wL_law_640 hM3.c (mX9_thrown hM3 ?_)
    refine wL_law_643 ?_
    refine wL_law_645 (fun c645 => ?_) (fun c645 => absurd e4 c645)
    refine wL_law_650 ?_
    refine wL_law_652 (fun c652 => ?_) (fun c652 => ?_)
    · refine wL_law_667 ?_
      exact law_go hk ⟨_, _, _, _, hL3, hM3, ho3, hd3, hR2⟩
    · refine wL_law_655 ?_
      refine wL_law_656 ?_
      refine wL_law_657 ho3 (j := 0) rfl (by decide) (by decide) ?_
      refine wL_law_658 ?_
      refine wL_law_660 ?_
      refine wL_law_661 (fun c661 => ?_) (fun c661 => absurd ((hv c652).trans (hb c652).symm) c661)
      refine wL_law_667 ?_
      exact law_go hk ⟨_, _, _, _, hL3, hM3, ho3, hd3, hR2⟩
  · refine wL_law_586 ?_
    refine wL_law_587 ?_
    refine wL_law_588 ?_
    refine wL_law_590 ?_
    refine wL_law_591 ?_
    refine wL_law_592 (j := 6 * c + 1) (nI_add _ 1) (by omega) (by omega) ?_
    refine wL_law_593 ?_
    refine wL_law_594 ?_
    refine wL_law_596 ?_
    refine wL_law_597 ?_
    refine wL_law_598 (j := 6 * c + 2) (nI_add _ 2) (by omega) (by omega) ?_
    refine wL_law_599 (fun c599 => absurd c599 hx) (fun c599 => ?_)
    refine wL_law_602 ?_
    refine wL_law_603 ?_
    refine wL_law_607 ?_
    refine wL_law_608 (sL_release hL hR.1 hR.htm ho (by omega) (fun k v S' h2 f2 z2 hO hL2 hc2 hv hq => ?_))
    have hM2 : isM h2 (L + 741) M := hM.oo (fun q a1 a2 => hq q (Or.inr (by omega)) (by omega))
    have ho2 := hc2
    have hd2 := (hq (L + 755) (Or.inr (by omega)) (by omega)).trans hd
    refine wL_law_611 ?_
    refine wL_law_613 ?_
    refine wL_law_614 ?_
    refine wL_law_615 ?_
    refine wL_law_617 ?_
    refine wL_law_618 ?_
    refine wL_law_619 (j := 6 * c + 1) (nI_add _ 1) (by omega) (by omega) ?_
    refine wL_law_620 ?_
    refine wL_law_621 ?_
    refine wL_law_623 ?_
    refine wL_law_624 ?_
    refine wL_law_625 (j := 6 * c + 2) (nI_add _ 2) (by omega) (by omega) ?_
    refine wL_law_626 (fun c626 => absurd c626 hx) (fun c626 => ?_)
    refine wL_law_629 ?_
    refine wL_law_630 ?_
    refine wL_law_634 hM2.c (sX9_release hR (by omega) hM2 hO (fun h3 M2 b hM3 hq3 e4 hb hR2 => ?_))
    have hL3 := hL2.o hq3 (Or.inl (Nat.le_refl _))
    have ho3 := (hq3 (L + 754) (Or.inr (by omega))).trans ho2
    have hd3 := (hq3 (L + 755) (Or.inr (by omega))).trans hd2
    refine wL_law_637 ?_
    refine wL_law_639 ?_
    refine wL_law_640 hM3.c (mX9_thrown hM3 ?_)
    refine wL_law_643 ?_
    refine wL_law_645 (fun c645 => ?_) (fun c645 => absurd e4 c645)
    refine wL_law_650 ?_
    refine wL_law_652 (fun c652 => ?_) (fun c652 => ?_)
    · refine wL_law_667 ?_
      exact law_go hk ⟨_, _, _, _, hL3, hM3, ho3, hd3, hR2⟩
    · refine wL_law_655 ?_
      refine wL_law_656 ?_
      refine wL_law_657 ho3 (j := 0) rfl (by decide) (by decide) ?_
      refine wL_law_658 ?_
      refine wL_law_660 ?_
      refine wL_law_661 (fun c661 => ?_) (fun c661 => absurd ((hv c652).trans (hb c652).symm) c661)
      refine wL_law_667 ?_
      exact law_go hk ⟨_, _, _, _, hL3, hM3, ho3, hd3, hR2⟩
theorem law_trade {L c bc bs : Nat} {Kr : q_KR} (hI : LI h L c) (hc : c < 512) (hj : 6 * c + 6 ≤ e_sL V) (hn : e_sL V ≤ 3072) (hk : ∀ h2 z2, LI h2 L (c + 1) → QW V iL_law 2751 (lawls V L (nI (6 * c)) none none none) [] h2 z2 bc bs Kr Kx) : QW V iL_law 670 (lawls V L (nI (6 * c)) none none none) [] h z (bc + 6) (bs + 36) Kr Kx := by
  obtain ⟨S, M, f, g, hL, hM, ho, hd, hR⟩ := hI
  refine q_budle (bc' := bc + 6) (bs' := bs + 36) (by omega) (by omega) ?_
  refine wL_law_670 ?_
  refine wL_law_671 ?_
  refine wL_law_672 ?_
  refine wL_law_674 ?_
  refine wL_law_675 ?_
  refine wL_law_676 (j := 6 * c + 1) (nI_add _ 1) (by omega) (by omega) ?_
  refine wL_law_677 ?_
  refine wL_law_678 ?_
  refine wL_law_680 ?_
  refine wL_law_681 ?_
  refine wL_law_682 (j := 6 * c + 2) (nI_add _ 2) (by omega) (by omega) ?_
  refine wL_law_683 ?_
  refine wL_law_684 ?_
  refine wL_law_686 ?_
  refine wL_law_687 ?_
  refine wL_law_688 (j := 6 * c + 3) (nI_add _ 3) (by omega) (by omega) ?_
  refine wL_law_689 ?_
  refine wL_law_690 ?_
  refine wL_law_692 ?_
  refine wL_law_693 ?_
  refine wL_law_694 (j := 6 * c + 4) (nI_add _ 4) (by omega) (by omega) ?_
  refine wL_law_695 ?_
  refine wL_law_696 (sL_trade hL hR.1 ho (by omega) (fun k v S' h2 f2 z2 hO hL2 hc2 hv hq => ?_))
  have hM2 : isM h2 (L + 741) M := hM.oo (fun q a1 a2 => hq q (Or.inr (by omega)) (by omega))
  have ho2 := hc2
  have hd2 := (hq (L + 755) (Or.inr (by omega)) (by omega)).trans hd
  refine wL_law_699 ?_
  refine wL_law_701 ?_
  refine wL_law_702 ?_
  refine wL_law_703 ?_
  refine wL_law_705 ?_
  refine wL_law_706 ?_
  refine wL_law_707 (j := 6 * c + 1) (nI_add _ 1) (by omega) (by omega) ?_
  refine wL_law_708 ?_
  refine wL_law_709 ?_
  refine wL_law_711 ?_
  refine wL_law_712 ?_
  refine wL_law_713 (j := 6 * c + 2) (nI_add _ 2) (by omega) (by omega) ?_
  refine wL_law_714 ?_
  refine wL_law_715 ?_
  refine wL_law_717 ?_
  refine wL_law_718 ?_
  refine wL_law_719 (j := 6 * c + 3) (nI_add _ 3) (by omega) (by omega) ?_
  refine wL_law_720 ?_
  refine wL_law_721 ?_
  refine wL_law_723 ?_
  refine wL_law_724 ?_
  refine wL_law_725 (j := 6 * c + 4) (nI_add _ 4) (by omega) (by omega) ?_
  refine wL_law_726 hM2.c (sX9_trade hR (by omega) hM2 hO (fun h3 M2 b hM3 hq3 e4 hb hR2 => ?_))
  have hL3 := hL2.o hq3 (Or.inl (Nat.le_refl _))
  have ho3 := (hq3 (L + 754) (Or.inr (by omega))).trans ho2
  have hd3 := (hq3 (L + 755) (Or.inr (by omega))).trans hd2
  refine wL_law_729 ?_
  refine wL_law_731 ?_
  refine wL_law_732 hM3.c (mX9_thrown hM3 ?_)
  refine wL_law_735 ?_
  refine wL_law_737 (fun c737 => ?_) (fun c737 => absurd e4 c737)
  refine wL_law_742 ?_
  refine wL_law_744 (fun c744 => ?_) (fun c744 => ?_)
  · refine wL_law_759 ?_
    exact law_go hk ⟨_, _, _, _, hL3, hM3, ho3, hd3, hR2⟩
  · refine wL_law_747 ?_
    refine wL_law_748 ?_
    refine wL_law_749 ho3 (j := 0) rfl (by decide) (by decide) ?_
    refine wL_law_750 ?_
    refine wL_law_752 ?_
    refine wL_law_753 (fun c753 => ?_) (fun c753 => absurd ((hv c744).trans (hb c744).symm) c753)
    refine wL_law_759 ?_
    exact law_go hk ⟨_, _, _, _, hL3, hM3, ho3, hd3, hR2⟩
theorem law_nextYear {L c bc bs : Nat} {Kr : q_KR} (hI : LI h L c) (hc : c < 512) (hj : 6 * c + 6 ≤ e_sL V) (hn : e_sL V ≤ 3072) (hk : ∀ h2 z2, LI h2 L (c + 1) → QW V iL_law 2751 (lawls V L (nI (6 * c)) none none none) [] h2 z2 bc bs Kr Kx) : QW V iL_law 762 (lawls V L (nI (6 * c)) none none none) [] h z (bc + 6) (bs + 36) Kr Kx := by
  obtain ⟨S, M, f, g, hL, hM, ho, hd, hR⟩ := hI
  refine q_budle (bc' := bc + 1) (bs' := bs + 6) (by omega) (by omega) ?_
  refine wL_law_762 ?_
  refine wL_law_763 ?_
  refine wL_law_764 (sL_nextYear hL hR.1 ho (by omega) (fun k v S' h2 f2 z2 hO hL2 hc2 hv hq => ?_))
  have hM2 : isM h2 (L + 741) M := hM.oo (fun q a1 a2 => hq q (Or.inr (by omega)) (by omega))
  have ho2 := hc2
  have hd2 := (hq (L + 755) (Or.inr (by omega)) (by omega)).trans hd
  refine wL_law_767 ?_
  refine wL_law_769 ?_
  refine wL_law_770 hM2.c (sX9_nextYear hR (by omega) hM2 hO (fun h3 M2 b hM3 hq3 e4 hb hR2 => ?_))
  have hL3 := hL2.o hq3 (Or.inl (Nat.le_refl _))
  have ho3 := (hq3 (L + 754) (Or.inr (by omega))).trans ho2
  have hd3 := (hq3 (L + 755) (Or.inr (by omega))).trans hd2
  refine wL_law_773 ?_
  refine wL_law_775 ?_
  refine wL_law_776 hM3.c (mX9_thrown hM3 ?_)
  refine wL_law_779 ?_
  refine wL_law_781 (fun c781 => ?_) (fun c781 => absurd e4 c781)
  refine wL_law_786 ?_
  refine wL_law_788 (fun c788 => ?_) (fun c788 => ?_)
  · refine wL_law_802 ?_
    exact law_go hk ⟨_, _, _, _, hL3, hM3, ho3, hd3, hR2⟩
  · refine wL_law_791 ?_
    refine wL_law_792 ?_
    refine wL_law_793 ho3 (j := 0) rfl (by decide) (by decide) ?_
    refine wL_law_794 ?_
    refine wL_law_796 (fun c796 => ?_) (fun c796 => absurd ((hv c788).trans (hb c788).symm) c796)
    refine wL_law_802 ?_
    exact law_go hk ⟨_, _, _, _, hL3, hM3, ho3, hd3, hR2⟩
theorem law_year {L c bc bs : Nat} {Kr : q_KR} (hI : LI h L c) (hc : c < 512) (hj : 6 * c + 6 ≤ e_sL V) (hn : e_sL V ≤ 3072) (hk : ∀ h2 z2, LI h2 L (c + 1) → QW V iL_law 2751 (lawls V L (nI (6 * c)) none none none) [] h2 z2 bc bs Kr Kx) : QW V iL_law 805 (lawls V L (nI (6 * c)) none none none) [] h z (bc + 6) (bs + 36) Kr Kx := by
  obtain ⟨S, M, f, g, hL, hM, ho, hd, hR⟩ := hI
  refine q_budle (bc' := bc + 1) (bs' := bs + 6) (by omega) (by omega) ?_
  refine wL_law_805 ?_
  refine wL_law_806 ?_
  refine wL_law_807 (sL_year hL hR.1 ho (by omega) (fun k v S' h2 f2 z2 hO hL2 hc2 hv hq => ?_))
  have hM2 : isM h2 (L + 741) M := hM.oo (fun q a1 a2 => hq q (Or.inr (by omega)) (by omega))
  have ho2 := hc2
  have hd2 := (hq (L + 755) (Or.inr (by omega)) (by omega)).trans hd
  refine wL_law_810 ?_
  refine wL_law_812 ?_
  refine wL_law_813 hM2.c (sX9_year hR (by omega) hM2 hO (fun h3 M2 b hM3 hq3 e4 hb hR2 => ?_))
  have hL3 := hL2.o hq3 (Or.inl (Nat.le_refl _))
  have ho3 := (hq3 (L + 754) (Or.inr (by omega))).trans ho2
  have hd3 := (hq3 (L + 755) (Or.inr (by omega))).trans hd2
  refine wL_law_816 ?_
  refine wL_law_818 ?_
  refine wL_law_819 hM3.c (mX9_thrown hM3 ?_)
  refine wL_law_822 ?_
  refine wL_law_824 (fun c824 => ?_) (fun c824 => absurd e4 c824)
  refine wL_law_829 ?_
  refine wL_law_831 (fun c831 => ?_) (fun c831 => ?_)
  · refine wL_law_846 ?_
    exact law_go hk ⟨_, _, _, _, hL3, hM3, ho3, hd3, hR2⟩
  · refine wL_law_834 ?_
    refine wL_law_835 ?_
    refine wL_law_836 ho3 (j := 0) rfl (by decide) (by decide) ?_
    refine wL_law_837 ?_
    refine wL_law_839 ?_
    refine wL_law_840 (fun c840 => ?_) (fun c840 => absurd ((hv c831).trans (hb c831).symm) c840)
    refine wL_law_846 ?_
    exact law_go hk ⟨_, _, _, _, hL3, hM3, ho3, hd3, hR2⟩
theorem law_cap {L c bc bs : Nat} {Kr : q_KR} (hI : LI h L c) (hc : c < 512) (hj : 6 * c + 6 ≤ e_sL V) (hn : e_sL V ≤ 3072) (hk : ∀ h2 z2, LI h2 L (c + 1) → QW V iL_law 2751 (lawls V L (nI (6 * c)) none none none) [] h2 z2 bc bs Kr Kx) : QW V iL_law 849 (lawls V L (nI (6 * c)) none none none) [] h z (bc + 6) (bs + 36) Kr Kx := by
  obtain ⟨S, M, f, g, hL, hM, ho, hd, hR⟩ := hI
  refine q_budle (bc' := bc + 2) (bs' := bs + 12) (by omega) (by omega) ?_
  refine wL_law_849 ?_
  refine wL_law_850 ?_
  refine wL_law_851 ?_
  refine wL_law_853 ?_
  refine wL_law_854 ?_
  refine wL_law_855 (j := 6 * c + 1) (nI_add _ 1) (by omega) (by omega) ?_
  refine wL_law_856 ?_
  refine wL_law_857 (sL_cap hL hR.1 ho (by omega) (fun k v S' h2 f2 z2 hO hL2 hc2 hv hq => ?_))
  have hM2 : isM h2 (L + 741) M := hM.oo (fun q a1 a2 => hq q (Or.inr (by omega)) (by omega))
  have ho2 := hc2
  have hd2 := (hq (L + 755) (Or.inr (by omega)) (by omega)).trans hd
  refine wL_law_860 ?_
  refine wL_law_862 ?_
  refine wL_law_863 ?_
  refine wL_law_864 ?_
  refine wL_law_866 ?_
  refine wL_law_867 ?_
  refine wL_law_868 (j := 6 * c + 1) (nI_add _ 1) (by omega) (by omega) ?_
  refine wL_law_869 hM2.c (sX9_cap hR (by omega) hM2 hO (fun h3 M2 b hM3 hq3 e4 hb hR2 => ?_))
  have hL3 := hL2.o hq3 (Or.inl (Nat.le_refl _))
  have ho3 := (hq3 (L + 754) (Or.inr (by omega))).trans ho2
  have hd3 := (hq3 (L + 755) (Or.inr (by omega))).trans hd2
  refine wL_law_872 ?_
  refine wL_law_874 ?_
  refine wL_law_875 hM3.c (mX9_thrown hM3 ?_)
  refine wL_law_878 ?_
  refine wL_law_880 (fun c880 => ?_) (fun c880 => absurd e4 c880)
  refine wL_law_885 ?_
  refine wL_law_887 (fun c887 => ?_) (fun c887 => ?_)
  · refine wL_law_902 ?_
    exact law_go hk ⟨_, _, _, _, hL3, hM3, ho3, hd3, hR2⟩
  · refine wL_law_890 ?_
    refine wL_law_891 ?_
    refine wL_law_892 ho3 (j := 0) rfl (by decide) (by decide) ?_
    refine wL_law_893 ?_
    refine wL_law_895 ?_
    refine wL_law_896 (fun c896 => ?_) (fun c896 => absurd ((hv c887).trans (hb c887).symm) c896)
    refine wL_law_902 ?_
    exact law_go hk ⟨_, _, _, _, hL3, hM3, ho3, hd3, hR2⟩
theorem law_taxLine {L c bc bs : Nat} {Kr : q_KR} (hI : LI h L c) (hc : c < 512) (hj : 6 * c + 6 ≤ e_sL V) (hn : e_sL V ≤ 3072) (hk : ∀ h2 z2, LI h2 L (c + 1) → QW V iL_law 2751 (lawls V L (nI (6 * c)) none none none) [] h2 z2 bc bs Kr Kx) : QW V iL_law 905 (lawls V L (nI (6 * c)) none none none) [] h z (bc + 6) (bs + 36) Kr Kx := by
  obtain ⟨S, M, f, g, hL, hM, ho, hd, hR⟩ := hI
  refine q_budle (bc' := bc + 2) (bs' := bs + 12) (by omega) (by omega) ?_
  refine wL_law_905 ?_
  refine wL_law_906 ?_
  refine wL_law_907 ?_
  refine wL_law_909 ?_
  refine wL_law_910 ?_
  refine wL_law_911 (j := 6 * c + 1) (nI_add _ 1) (by omega) (by omega) ?_
  refine wL_law_912 ?_
  refine wL_law_913 (sL_taxLine hL hR.1 ho (by omega) (fun k v S' h2 f2 z2 hO hL2 hc2 hv hq => ?_))
  have hM2 : isM h2 (L + 741) M := hM.oo (fun q a1 a2 => hq q (Or.inr (by omega)) (by omega))
  have ho2 := hc2
  have hd2 := (hq (L + 755) (Or.inr (by omega)) (by omega)).trans hd
  refine wL_law_916 ?_
  refine wL_law_918 ?_
  refine wL_law_919 ?_
  refine wL_law_920 ?_
  refine wL_law_922 ?_
  refine wL_law_923 ?_
  refine wL_law_924 (j := 6 * c + 1) (nI_add _ 1) (by omega) (by omega) ?_
  refine wL_law_925 hM2.c (sX9_taxLine hR (by omega) hM2 hO (fun h3 M2 b hM3 hq3 e4 hb hR2 => ?_))
  have hL3 := hL2.o hq3 (Or.inl (Nat.le_refl _))
  have ho3 := (hq3 (L + 754) (Or.inr (by omega))).trans ho2
  have hd3 := (hq3 (L + 755) (Or.inr (by omega))).trans hd2
  refine wL_law_928 ?_
  refine wL_law_930 ?_
  refine wL_law_931 hM3.c (mX9_thrown hM3 ?_)
  refine wL_law_934 ?_
  refine wL_law_936 (fun c936 => ?_) (fun c936 => absurd e4 c936)
  refine wL_law_941 ?_
  refine wL_law_943 (fun c943 => ?_) (fun c943 => ?_)
  · refine wL_law_958 ?_
    exact law_go hk ⟨_, _, _, _, hL3, hM3, ho3, hd3, hR2⟩
  · refine wL_law_946 ?_
    refine wL_law_947 ?_
    refine wL_law_948 ho3 (j := 0) rfl (by decide) (by decide) ?_
    refine wL_law_949 ?_
    refine wL_law_951 ?_
    refine wL_law_952 (fun c952 => ?_) (fun c952 => absurd ((hv c943).trans (hb c943).symm) c952)
    refine wL_law_958 ?_
    exact law_go hk ⟨_, _, _, _, hL3, hM3, ho3, hd3, hR2⟩
theorem law_offer {L c bc bs : Nat} {Kr : q_KR} (hI : LI h L c) (hc : c < 512) (hj : 6 * c + 6 ≤ e_sL V) (hn : e_sL V ≤ 3072) (hk : ∀ h2 z2, LI h2 L (c + 1) → QW V iL_law 2751 (lawls V L (nI (6 * c)) none none none) [] h2 z2 bc bs Kr Kx) : QW V iL_law 961 (lawls V L (nI (6 * c)) none none none) [] h z (bc + 6) (bs + 36) Kr Kx := by
  obtain ⟨S, M, f, g, hL, hM, ho, hd, hR⟩ := hI
  refine q_budle (bc' := bc + 2) (bs' := bs + 12) (by omega) (by omega) ?_
  refine wL_law_961 ?_
  refine wL_law_962 ?_
  refine wL_law_963 ?_
  refine wL_law_965 ?_
  refine wL_law_966 ?_
  refine wL_law_967 (j := 6 * c + 1) (nI_add _ 1) (by omega) (by omega) ?_
  refine wL_law_968 ?_
  refine wL_law_969 (sL_offer hL hR.1 ho (by omega) (fun k v S' h2 f2 z2 hO hL2 hc2 hv hq => ?_))
  have hM2 : isM h2 (L + 741) M := hM.oo (fun q a1 a2 => hq q (Or.inr (by omega)) (by omega))
  have ho2 := hc2
  have hd2 := (hq (L + 755) (Or.inr (by omega)) (by omega)).trans hd
  refine wL_law_972 ?_
  refine wL_law_974 ?_
  refine wL_law_975 ?_
  refine wL_law_976 ?_
  refine wL_law_978 ?_
  refine wL_law_979 ?_
  refine wL_law_980 (j := 6 * c + 1) (nI_add _ 1) (by omega) (by omega) ?_
  refine wL_law_981 hM2.c (sX9_offer hR (by omega) hM2 hO (fun h3 M2 b hM3 hq3 e4 hb hR2 => ?_))
  have hL3 := hL2.o hq3 (Or.inl (Nat.le_refl _))
  have ho3 := (hq3 (L + 754) (Or.inr (by omega))).trans ho2
  have hd3 := (hq3 (L + 755) (Or.inr (by omega))).trans hd2
  refine wL_law_984 ?_
  refine wL_law_986 ?_
  refine wL_law_987 hM3.c (mX9_thrown hM3 ?_)
  refine wL_law_990 ?_
  refine wL_law_992 (fun c992 => ?_) (fun c992 => absurd e4 c992)
  refine wL_law_997 ?_
  refine wL_law_999 (fun c999 => ?_) (fun c999 => ?_)
  · refine wL_law_1014 ?_
    exact law_go hk ⟨_, _, _, _, hL3, hM3, ho3, hd3, hR2⟩
  · refine wL_law_1002 ?_
    refine wL_law_1003 ?_
    refine wL_law_1004 ho3 (j := 0) rfl (by decide) (by decide) ?_
    refine wL_law_1005 ?_
    refine wL_law_1007 ?_
    refine wL_law_1008 (fun c1008 => ?_) (fun c1008 => absurd ((hv c999).trans (hb c999).symm) c1008)
    refine wL_law_1014 ?_
    exact law_go hk ⟨_, _, _, _, hL3, hM3, ho3, hd3, hR2⟩
theorem law_charge {L c bc bs : Nat} {Kr : q_KR} (hI : LI h L c) (hc : c < 512) (hj : 6 * c + 6 ≤ e_sL V) (hn : e_sL V ≤ 3072) (hk : ∀ h2 z2, LI h2 L (c + 1) → QW V iL_law 2751 (lawls V L (nI (6 * c)) none none none) [] h2 z2 bc bs Kr Kx) : QW V iL_law 1017 (lawls V L (nI (6 * c)) none none none) [] h z (bc + 6) (bs + 36) Kr Kx := by
  obtain ⟨S, M, f, g, hL, hM, ho, hd, hR⟩ := hI
  refine q_budle (bc' := bc + 3) (bs' := bs + 18) (by omega) (by omega) ?_
  refine wL_law_1017 ?_
  refine wL_law_1018 ?_
  refine wL_law_1019 ?_
  refine wL_law_1021 ?_
  refine wL_law_1022 ?_
  refine wL_law_1023 (j := 6 * c + 1) (nI_add _ 1) (by omega) (by omega) ?_
  refine wL_law_1024 ?_
  refine wL_law_1025 ?_
  refine wL_law_1027 ?_
  refine wL_law_1028 ?_
  refine wL_law_1029 (j := 6 * c + 2) (nI_add _ 2) (by omega) (by omega) ?_
  refine wL_law_1030 ?_
  refine wL_law_1031 (sL_charge hL hR.1 ho (by omega) (fun k v S' h2 f2 z2 hO hL2 hc2 hv hq => ?_))
  have hM2 : isM h2 (L + 741) M := hM.oo (fun q a1 a2 => hq q (Or.inr (by omega)) (by omega))
  have ho2 := hc2
  have hd2 := (hq (L + 755) (Or.inr (by omega)) (by omega)).trans hd
  refine wL_law_1034 ?_
  refine wL_law_1036 ?_
  refine wL_law_1037 ?_
  refine wL_law_1038 ?_
  refine wL_law_1040 ?_
  refine wL_law_1041 ?_
  refine wL_law_1042 (j := 6 * c + 1) (nI_add _ 1) (by omega) (by omega) ?_
  refine wL_law_1043 ?_
  refine wL_law_1044 ?_
  refine wL_law_1046 ?_
  refine wL_law_1047 ?_
  refine wL_law_1048 (j := 6 * c + 2) (nI_add _ 2) (by omega) (by omega) ?_
  refine wL_law_1049 hM2.c (sX9_charge hR (by omega) hM2 hO (fun h3 M2 b hM3 hq3 e4 hb hR2 => ?_))
  have hL3 := hL2.o hq3 (Or.inl (Nat.le_refl _))
  have ho3 := (hq3 (L + 754) (Or.inr (by omega))).trans ho2
  have hd3 := (hq3 (L + 755) (Or.inr (by omega))).trans hd2
  refine wL_law_1052 ?_
  refine wL_law_1054 ?_
  refine wL_law_1055 hM3.c (mX9_thrown hM3 ?_)
  refine wL_law_1058 ?_
  refine wL_law_1060 (fun c1060 => ?_) (fun c1060 => absurd e4 c1060)
  refine wL_law_1065 ?_
  refine wL_law_1067 (fun c1067 => ?_) (fun c1067 => ?_)
  · refine wL_law_1082 ?_
    exact law_go hk ⟨_, _, _, _, hL3, hM3, ho3, hd3, hR2⟩
  · refine wL_law_1070 ?_
    refine wL_law_1071 ?_
    refine wL_law_1072 ho3 (j := 0) rfl (by decide) (by decide) ?_
    refine wL_law_1073 ?_
    refine wL_law_1075 ?_
    refine wL_law_1076 (fun c1076 => ?_) (fun c1076 => absurd ((hv c1067).trans (hb c1067).symm) c1076)
    refine wL_law_1082 ?_
    exact law_go hk ⟨_, _, _, _, hL3, hM3, ho3, hd3, hR2⟩
theorem law_deadMoney {L c bc bs : Nat} {Kr : q_KR} (hI : LI h L c) (hc : c < 512) (hj : 6 * c + 6 ≤ e_sL V) (hn : e_sL V ≤ 3072) (hk : ∀ h2 z2, LI h2 L (c + 1) → QW V iL_law 2751 (lawls V L (nI (6 * c)) none none none) [] h2 z2 bc bs Kr Kx) : QW V iL_law 1085 (lawls V L (nI (6 * c)) none none none) [] h z (bc + 6) (bs + 36) Kr Kx := by
  obtain ⟨S, M, f, g, hL, hM, ho, hd, hR⟩ := hI
  refine q_budle (bc' := bc + 3) (bs' := bs + 18) (by omega) (by omega) ?_
  refine wL_law_1085 ?_
  refine wL_law_1086 ?_
  refine wL_law_1087 ?_
  refine wL_law_1089 ?_
  refine wL_law_1090 ?_
  refine wL_law_1091 (j := 6 * c + 1) (nI_add _ 1) (by omega) (by omega) ?_
  refine wL_law_1092 ?_
  refine wL_law_1093 ?_
  refine wL_law_1095 ?_
  refine wL_law_1096 ?_
  refine wL_law_1097 (j := 6 * c + 2) (nI_add _ 2) (by omega) (by omega) ?_
  refine wL_law_1098 ?_
  refine wL_law_1099 (sL_deadMoney hL hR.1 ho (by omega) (fun k v S' h2 f2 z2 hO hL2 hc2 hv hq => ?_))
  have hM2 : isM h2 (L + 741) M := hM.oo (fun q a1 a2 => hq q (Or.inr (by omega)) (by omega))
  have ho2 := hc2
  have hd2 := (hq (L + 755) (Or.inr (by omega)) (by omega)).trans hd
  refine wL_law_1102 ?_
  refine wL_law_1104 ?_
  refine wL_law_1105 ?_
  refine wL_law_1106 ?_
  refine wL_law_1108 ?_
  refine wL_law_1109 ?_
  refine wL_law_1110 (j := 6 * c + 1) (nI_add _ 1) (by omega) (by omega) ?_
  refine wL_law_1111 ?_
  refine wL_law_1112 ?_
  refine wL_law_1114 ?_
  refine wL_law_1115 ?_
  refine wL_law_1116 (j := 6 * c + 2) (nI_add _ 2) (by omega) (by omega) ?_
  refine wL_law_1117 hM2.c (sX9_deadMoney hR (by omega) hM2 hO (fun h3 M2 b hM3 hq3 e4 hb hR2 => ?_))
  have hL3 := hL2.o hq3 (Or.inl (Nat.le_refl _))
  have ho3 := (hq3 (L + 754) (Or.inr (by omega))).trans ho2
  have hd3 := (hq3 (L + 755) (Or.inr (by omega))).trans hd2
  refine wL_law_1120 ?_
  refine wL_law_1122 ?_
  refine wL_law_1123 hM3.c (mX9_thrown hM3 ?_)
  refine wL_law_1126 ?_
  refine wL_law_1128 (fun c1128 => ?_) (fun c1128 => absurd e4 c1128)
  refine wL_law_1133 ?_
  refine wL_law_1135 (fun c1135 => ?_) (fun c1135 => ?_)
  · refine wL_law_1150 ?_
    exact law_go hk ⟨_, _, _, _, hL3, hM3, ho3, hd3, hR2⟩
  · refine wL_law_1138 ?_
    refine wL_law_1139 ?_
    refine wL_law_1140 ho3 (j := 0) rfl (by decide) (by decide) ?_
    refine wL_law_1141 ?_
    refine wL_law_1143 ?_
    refine wL_law_1144 (fun c1144 => ?_) (fun c1144 => absurd ((hv c1135).trans (hb c1135).symm) c1144)
    refine wL_law_1150 ?_
    exact law_go hk ⟨_, _, _, _, hL3, hM3, ho3, hd3, hR2⟩
theorem law_room {L c bc bs : Nat} {Kr : q_KR} (hI : LI h L c) (hc : c < 512) (hj : 6 * c + 6 ≤ e_sL V) (hn : e_sL V ≤ 3072) (hk : ∀ h2 z2, LI h2 L (c + 1) → QW V iL_law 2751 (lawls V L (nI (6 * c)) none none none) [] h2 z2 bc bs Kr Kx) : QW V iL_law 1153 (lawls V L (nI (6 * c)) none none none) [] h z (bc + 6) (bs + 36) Kr Kx := by
  obtain ⟨S, M, f, g, hL, hM, ho, hd, hR⟩ := hI
  refine q_budle (bc' := bc + 2) (bs' := bs + 12) (by omega) (by omega) ?_
  refine wL_law_1153 ?_
  refine wL_law_1154 ?_
  refine wL_law_1155 ?_
  refine wL_law_1157 ?_
  refine wL_law_1158 ?_
  refine wL_law_1159 (j := 6 * c + 1) (nI_add _ 1) (by omega) (by omega) ?_
  refine wL_law_1160 ?_
  refine wL_law_1161 (sL_room hL hR.1 ho (by omega) (fun k v S' h2 f2 z2 hO hL2 hc2 hv hq => ?_))
  have hM2 : isM h2 (L + 741) M := hM.oo (fun q a1 a2 => hq q (Or.inr (by omega)) (by omega))
  have ho2 := hc2
  have hd2 := (hq (L + 755) (Or.inr (by omega)) (by omega)).trans hd
  refine wL_law_1164 ?_
  refine wL_law_1166 ?_
  refine wL_law_1167 ?_
  refine wL_law_1168 ?_
  refine wL_law_1170 ?_
  refine wL_law_1171 ?_
  refine wL_law_1172 (j := 6 * c + 1) (nI_add _ 1) (by omega) (by omega) ?_
  refine wL_law_1173 hM2.c (sX9_room hR (by omega) hM2 hO (fun h3 M2 b hM3 hq3 e4 hb hR2 => ?_))
  have hL3 := hL2.o hq3 (Or.inl (Nat.le_refl _))
  have ho3 := (hq3 (L + 754) (Or.inr (by omega))).trans ho2
  have hd3 := (hq3 (L + 755) (Or.inr (by omega))).trans hd2
  refine wL_law_1176 ?_
  refine wL_law_1178 ?_
  refine wL_law_1179 hM3.c (mX9_thrown hM3 ?_)
  refine wL_law_1182 ?_
  refine wL_law_1184 (fun c1184 => ?_) (fun c1184 => absurd e4 c1184)
  refine wL_law_1189 ?_
  refine wL_law_1191 (fun c1191 => ?_) (fun c1191 => ?_)
  · refine wL_law_1206 ?_
    exact law_go hk ⟨_, _, _, _, hL3, hM3, ho3, hd3, hR2⟩
  · refine wL_law_1194 ?_
    refine wL_law_1195 ?_
    refine wL_law_1196 ho3 (j := 0) rfl (by decide) (by decide) ?_
    refine wL_law_1197 ?_
    refine wL_law_1199 ?_
    refine wL_law_1200 (fun c1200 => ?_) (fun c1200 => absurd ((hv c1191).trans (hb c1191).symm) c1200)
    refine wL_law_1206 ?_
    exact law_go hk ⟨_, _, _, _, hL3, hM3, ho3, hd3, hR2⟩
theorem law_tax {L c bc bs : Nat} {Kr : q_KR} (hI : LI h L c) (hc : c < 512) (hj : 6 * c + 6 ≤ e_sL V) (hn : e_sL V ≤ 3072) (hk : ∀ h2 z2, LI h2 L (c + 1) → QW V iL_law 2751 (lawls V L (nI (6 * c)) none none none) [] h2 z2 bc bs Kr Kx) : QW V iL_law 1209 (lawls V L (nI (6 * c)) none none none) [] h z (bc + 6) (bs + 36) Kr Kx := by
  obtain ⟨S, M, f, g, hL, hM, ho, hd, hR⟩ := hI
  refine q_budle (bc' := bc + 2) (bs' := bs + 12) (by omega) (by omega) ?_
  refine wL_law_1209 ?_
  refine wL_law_1210 ?_
  refine wL_law_1211 ?_
  refine wL_law_1213 ?_
  refine wL_law_1214 ?_
  refine wL_law_1215 (j := 6 * c + 1) (nI_add _ 1) (by omega) (by omega) ?_
  refine wL_law_1216 ?_
  refine wL_law_1217 (sL_tax hL hR.1 ho (by omega) (fun k v S' h2 f2 z2 hO hL2 hc2 hv hq => ?_))
  have hM2 : isM h2 (L + 741) M := hM.oo (fun q a1 a2 => hq q (Or.inr (by omega)) (by omega))
  have ho2 := hc2
  have hd2 := (hq (L + 755) (Or.inr (by omega)) (by omega)).trans hd
  refine wL_law_1220 ?_
  refine wL_law_1222 ?_
  refine wL_law_1223 ?_
  refine wL_law_1224 ?_
  refine wL_law_1226 ?_
  refine wL_law_1227 ?_
  refine wL_law_1228 (j := 6 * c + 1) (nI_add _ 1) (by omega) (by omega) ?_
  refine wL_law_1229 hM2.c (sX9_tax hR (by omega) hM2 hO (fun h3 M2 b hM3 hq3 e4 hb hR2 => ?_))
  have hL3 := hL2.o hq3 (Or.inl (Nat.le_refl _))
  have ho3 := (hq3 (L + 754) (Or.inr (by omega))).trans ho2
  have hd3 := (hq3 (L + 755) (Or.inr (by omega))).trans hd2
  refine wL_law_1232 ?_
  refine wL_law_1234 ?_
  refine wL_law_1235 hM3.c (mX9_thrown hM3 ?_)
  refine wL_law_1238 ?_
  refine wL_law_1240 (fun c1240 => ?_) (fun c1240 => absurd e4 c1240)
  refine wL_law_1245 ?_
  refine wL_law_1247 (fun c1247 => ?_) (fun c1247 => ?_)
  · refine wL_law_1261 ?_
    exact law_go hk ⟨_, _, _, _, hL3, hM3, ho3, hd3, hR2⟩
  · refine wL_law_1250 ?_
    refine wL_law_1251 ?_
    refine wL_law_1252 ho3 (j := 0) rfl (by decide) (by decide) ?_
    refine wL_law_1253 ?_
    refine wL_law_1255 (fun c1255 => ?_) (fun c1255 => absurd ((hv c1247).trans (hb c1247).symm) c1255)
    refine wL_law_1261 ?_
    exact law_go hk ⟨_, _, _, _, hL3, hM3, ho3, hd3, hR2⟩
theorem law_paid {L c bc bs : Nat} {Kr : q_KR} (hI : LI h L c) (hc : c < 512) (hj : 6 * c + 6 ≤ e_sL V) (hn : e_sL V ≤ 3072) (hk : ∀ h2 z2, LI h2 L (c + 1) → QW V iL_law 2751 (lawls V L (nI (6 * c)) none none none) [] h2 z2 bc bs Kr Kx) : QW V iL_law 1264 (lawls V L (nI (6 * c)) none none none) [] h z (bc + 6) (bs + 36) Kr Kx := by
  obtain ⟨S, M, f, g, hL, hM, ho, hd, hR⟩ := hI
  refine q_budle (bc' := bc + 2) (bs' := bs + 12) (by omega) (by omega) ?_
  refine wL_law_1264 ?_
  refine wL_law_1265 ?_
  refine wL_law_1266 ?_
  refine wL_law_1268 ?_
  refine wL_law_1269 ?_
  refine wL_law_1270 (j := 6 * c + 1) (nI_add _ 1) (by omega) (by omega) ?_
  refine wL_law_1271 ?_
  refine wL_law_1272 (sL_paid hL hR.1 ho (by omega) (fun k v S' h2 f2 z2 hO hL2 hc2 hv hq => ?_))
  have hM2 : isM h2 (L + 741) M := hM.oo (fun q a1 a2 => hq q (Or.inr (by omega)) (by omega))
  have ho2 := hc2
  have hd2 := (hq (L + 755) (Or.inr (by omega)) (by omega)).trans hd
  refine wL_law_1275 ?_
  refine wL_law_1277 ?_
  refine wL_law_1278 ?_
  refine wL_law_1279 ?_
  refine wL_law_1281 ?_
  refine wL_law_1282 ?_
  refine wL_law_1283 (j := 6 * c + 1) (nI_add _ 1) (by omega) (by omega) ?_
  refine wL_law_1284 hM2.c (sX9_paid hR (by omega) hM2 hO (fun h3 M2 b hM3 hq3 e4 hb hR2 => ?_))
  have hL3 := hL2.o hq3 (Or.inl (Nat.le_refl _))
  have ho3 := (hq3 (L + 754) (Or.inr (by omega))).trans ho2
  have hd3 := (hq3 (L + 755) (Or.inr (by omega))).trans hd2
  refine wL_law_1287 ?_
  refine wL_law_1289 ?_
  refine wL_law_1290 hM3.c (mX9_thrown hM3 ?_)
  refine wL_law_1293 ?_
  refine wL_law_1295 (fun c1295 => ?_) (fun c1295 => absurd e4 c1295)
  refine wL_law_1300 ?_
  refine wL_law_1302 (fun c1302 => ?_) (fun c1302 => ?_)
  · refine wL_law_1316 ?_
    exact law_go hk ⟨_, _, _, _, hL3, hM3, ho3, hd3, hR2⟩
  · refine wL_law_1305 ?_
    refine wL_law_1306 ?_
    refine wL_law_1307 ho3 (j := 0) rfl (by decide) (by decide) ?_
    refine wL_law_1308 ?_
    refine wL_law_1310 (fun c1310 => ?_) (fun c1310 => absurd ((hv c1302).trans (hb c1302).symm) c1310)
    refine wL_law_1316 ?_
    exact law_go hk ⟨_, _, _, _, hL3, hM3, ho3, hd3, hR2⟩
theorem law_taxedYears {L c bc bs : Nat} {Kr : q_KR} (hI : LI h L c) (hc : c < 512) (hj : 6 * c + 6 ≤ e_sL V) (hn : e_sL V ≤ 3072) (hk : ∀ h2 z2, LI h2 L (c + 1) → QW V iL_law 2751 (lawls V L (nI (6 * c)) none none none) [] h2 z2 bc bs Kr Kx) : QW V iL_law 1319 (lawls V L (nI (6 * c)) none none none) [] h z (bc + 6) (bs + 36) Kr Kx := by
  obtain ⟨S, M, f, g, hL, hM, ho, hd, hR⟩ := hI
  refine q_budle (bc' := bc + 2) (bs' := bs + 12) (by omega) (by omega) ?_
  refine wL_law_1319 ?_
  refine wL_law_1320 ?_
  refine wL_law_1321 ?_
  refine wL_law_1323 ?_
  refine wL_law_1324 ?_
  refine wL_law_1325 (j := 6 * c + 1) (nI_add _ 1) (by omega) (by omega) ?_
  refine wL_law_1326 ?_
  refine wL_law_1327 (sL_taxedYears hL hR.1 ho (by omega) (fun k v S' h2 f2 z2 hO hL2 hc2 hv hq => ?_))
  have hM2 : isM h2 (L + 741) M := hM.oo (fun q a1 a2 => hq q (Or.inr (by omega)) (by omega))
  have ho2 := hc2
  have hd2 := (hq (L + 755) (Or.inr (by omega)) (by omega)).trans hd
  refine wL_law_1330 ?_
  refine wL_law_1332 ?_
  refine wL_law_1333 ?_
  refine wL_law_1334 ?_
  refine wL_law_1336 ?_
  refine wL_law_1337 ?_
  refine wL_law_1338 (j := 6 * c + 1) (nI_add _ 1) (by omega) (by omega) ?_
  refine wL_law_1339 hM2.c (sX9_taxedYears hR (by omega) hM2 hO (fun h3 M2 b hM3 hq3 e4 hb hR2 => ?_))
  have hL3 := hL2.o hq3 (Or.inl (Nat.le_refl _))
  have ho3 := (hq3 (L + 754) (Or.inr (by omega))).trans ho2
  have hd3 := (hq3 (L + 755) (Or.inr (by omega))).trans hd2
  refine wL_law_1342 ?_
  refine wL_law_1344 ?_
  refine wL_law_1345 hM3.c (mX9_thrown hM3 ?_)
  refine wL_law_1348 ?_
  refine wL_law_1350 (fun c1350 => ?_) (fun c1350 => absurd e4 c1350)
  refine wL_law_1355 ?_
  refine wL_law_1357 (fun c1357 => ?_) (fun c1357 => ?_)
  · refine wL_law_1372 ?_
    exact law_go hk ⟨_, _, _, _, hL3, hM3, ho3, hd3, hR2⟩
  · refine wL_law_1360 ?_
    refine wL_law_1361 ?_
    refine wL_law_1362 ho3 (j := 0) rfl (by decide) (by decide) ?_
    refine wL_law_1363 ?_
    refine wL_law_1365 ?_
    refine wL_law_1366 (fun c1366 => ?_) (fun c1366 => absurd ((hv c1357).trans (hb c1357).symm) c1366)
    refine wL_law_1372 ?_
    exact law_go hk ⟨_, _, _, _, hL3, hM3, ho3, hd3, hR2⟩
theorem law_midLevel {L c bc bs : Nat} {Kr : q_KR} (hI : LI h L c) (hc : c < 512) (hj : 6 * c + 6 ≤ e_sL V) (hn : e_sL V ≤ 3072) (hk : ∀ h2 z2, LI h2 L (c + 1) → QW V iL_law 2751 (lawls V L (nI (6 * c)) none none none) [] h2 z2 bc bs Kr Kx) : QW V iL_law 1375 (lawls V L (nI (6 * c)) none none none) [] h z (bc + 6) (bs + 36) Kr Kx := by
  obtain ⟨S, M, f, g, hL, hM, ho, hd, hR⟩ := hI
  refine q_budle (bc' := bc + 2) (bs' := bs + 12) (by omega) (by omega) ?_
  refine wL_law_1375 ?_
  refine wL_law_1376 ?_
  refine wL_law_1377 ?_
  refine wL_law_1379 ?_
  refine wL_law_1380 ?_
  refine wL_law_1381 (j := 6 * c + 1) (nI_add _ 1) (by omega) (by omega) ?_
  refine wL_law_1382 ?_
  refine wL_law_1383 (sL_midLevel hL hR.1 ho (by omega) (fun k v S' h2 f2 z2 hO hL2 hc2 hv hq => ?_))
  have hM2 : isM h2 (L + 741) M := hM.oo (fun q a1 a2 => hq q (Or.inr (by omega)) (by omega))
  have ho2 := hc2
  have hd2 := (hq (L + 755) (Or.inr (by omega)) (by omega)).trans hd
  refine wL_law_1386 ?_
  refine wL_law_1388 ?_
  refine wL_law_1389 ?_
  refine wL_law_1390 ?_
  refine wL_law_1392 ?_
  refine wL_law_1393 ?_
  refine wL_law_1394 (j := 6 * c + 1) (nI_add _ 1) (by omega) (by omega) ?_
  refine wL_law_1395 hM2.c (sX9_midLevel hR (by omega) hM2 hO (fun h3 M2 b hM3 hq3 e4 hb hR2 => ?_))
  have hL3 := hL2.o hq3 (Or.inl (Nat.le_refl _))
  have ho3 := (hq3 (L + 754) (Or.inr (by omega))).trans ho2
  have hd3 := (hq3 (L + 755) (Or.inr (by omega))).trans hd2
  refine wL_law_1398 ?_
  refine wL_law_1400 ?_
  refine wL_law_1401 hM3.c (mX9_thrown hM3 ?_)
  refine wL_law_1404 ?_
  refine wL_law_1406 (fun c1406 => ?_) (fun c1406 => absurd e4 c1406)
  refine wL_law_1411 ?_
  refine wL_law_1413 (fun c1413 => ?_) (fun c1413 => ?_)
  · refine wL_law_1428 ?_
    exact law_go hk ⟨_, _, _, _, hL3, hM3, ho3, hd3, hR2⟩
  · refine wL_law_1416 ?_
    refine wL_law_1417 ?_
    refine wL_law_1418 ho3 (j := 0) rfl (by decide) (by decide) ?_
    refine wL_law_1419 ?_
    refine wL_law_1421 ?_
    refine wL_law_1422 (fun c1422 => ?_) (fun c1422 => absurd ((hv c1413).trans (hb c1413).symm) c1422)
    refine wL_law_1428 ?_
    exact law_go hk ⟨_, _, _, _, hL3, hM3, ho3, hd3, hR2⟩
theorem law_roster {L c bc bs : Nat} {Kr : q_KR} (hI : LI h L c) (hc : c < 512) (hj : 6 * c + 6 ≤ e_sL V) (hn : e_sL V ≤ 3072) (hk : ∀ h2 z2, LI h2 L (c + 1) → QW V iL_law 2751 (lawls V L (nI (6 * c)) none none none) [] h2 z2 bc bs Kr Kx) : QW V iL_law 1431 (lawls V L (nI (6 * c)) none none none) [] h z (bc + 6) (bs + 36) Kr Kx := by
  obtain ⟨S, M, f, g, hL, hM, ho, hd, hR⟩ := hI
  refine q_budle (bc' := bc + 2) (bs' := bs + 12) (by omega) (by omega) ?_
  refine wL_law_1431 ?_
  refine wL_law_1432 ?_
  refine wL_law_1433 ?_
  refine wL_law_1435 ?_
  refine wL_law_1436 ?_
  refine wL_law_1437 (j := 6 * c + 1) (nI_add _ 1) (by omega) (by omega) ?_
  refine wL_law_1438 ?_
  refine wL_law_1439 (sL_roster hL hR.1 ho (by omega) (fun k v S' h2 f2 z2 hO hL2 hc2 hv hq => ?_))
  have hM2 : isM h2 (L + 741) M := hM.oo (fun q a1 a2 => hq q (Or.inr (by omega)) (by omega))
  have ho2 := hc2
  have hd2 := (hq (L + 755) (Or.inr (by omega)) (by omega)).trans hd
  refine wL_law_1442 ?_
  refine wL_law_1444 ?_
  refine wL_law_1445 ?_
  refine wL_law_1446 ?_
  refine wL_law_1448 ?_
  refine wL_law_1449 ?_
  refine wL_law_1450 (j := 6 * c + 1) (nI_add _ 1) (by omega) (by omega) ?_
  refine wL_law_1451 hM2.c (sX9_roster hR (by omega) hM2 hO (fun h3 M2 b hM3 hq3 e4 hb hR2 => ?_))
  have hL3 := hL2.o hq3 (Or.inl (Nat.le_refl _))
  have ho3 := (hq3 (L + 754) (Or.inr (by omega))).trans ho2
  have hd3 := (hq3 (L + 755) (Or.inr (by omega))).trans hd2
  refine wL_law_1454 ?_
  refine wL_law_1456 ?_
  refine wL_law_1457 hM3.c (mX9_thrown hM3 ?_)
  refine wL_law_1460 ?_
  refine wL_law_1462 (fun c1462 => ?_) (fun c1462 => absurd e4 c1462)
  refine wL_law_1467 ?_
  refine wL_law_1469 (fun c1469 => ?_) (fun c1469 => ?_)
  · refine wL_law_1484 ?_
    exact law_go hk ⟨_, _, _, _, hL3, hM3, ho3, hd3, hR2⟩
  · refine wL_law_1472 ?_
    refine wL_law_1473 ?_
    refine wL_law_1474 ho3 (j := 0) rfl (by decide) (by decide) ?_
    refine wL_law_1475 ?_
    refine wL_law_1477 ?_
    refine wL_law_1478 (fun c1478 => ?_) (fun c1478 => absurd ((hv c1469).trans (hb c1469).symm) c1478)
    refine wL_law_1484 ?_
    exact law_go hk ⟨_, _, _, _, hL3, hM3, ho3, hd3, hR2⟩
theorem law_teamRank {L c bc bs : Nat} {Kr : q_KR} (hI : LI h L c) (hc : c < 512) (hj : 6 * c + 6 ≤ e_sL V) (hn : e_sL V ≤ 3072) (hk : ∀ h2 z2, LI h2 L (c + 1) → QW V iL_law 2751 (lawls V L (nI (6 * c)) none none none) [] h2 z2 bc bs Kr Kx) : QW V iL_law 1487 (lawls V L (nI (6 * c)) none none none) [] h z (bc + 6) (bs + 36) Kr Kx := by
  obtain ⟨S, M, f, g, hL, hM, ho, hd, hR⟩ := hI
  refine q_budle (bc' := bc + 4) (bs' := bs + 24) (by omega) (by omega) ?_
  refine wL_law_1487 ?_
  refine wL_law_1488 ?_
  refine wL_law_1489 ?_
  refine wL_law_1491 ?_
  refine wL_law_1492 ?_
  refine wL_law_1493 (j := 6 * c + 1) (nI_add _ 1) (by omega) (by omega) ?_
  refine wL_law_1494 ?_
  refine wL_law_1495 ?_
  refine wL_law_1497 ?_
  refine wL_law_1498 ?_
  refine wL_law_1499 (j := 6 * c + 2) (nI_add _ 2) (by omega) (by omega) ?_
  refine wL_law_1500 ?_
  refine wL_law_1501 (sL_teamRank hL hR.1 ho (by omega) (fun k v S' h2 f2 z2 hO hL2 hc2 hv hq => ?_))
  have hM2 : isM h2 (L + 741) M := hM.oo (fun q a1 a2 => hq q (Or.inr (by omega)) (by omega))
  have ho2 := hc2
  have hd2 := (hq (L + 755) (Or.inr (by omega)) (by omega)).trans hd
  refine wL_law_1504 ?_
  refine wL_law_1506 ?_
  refine wL_law_1507 ?_
  refine wL_law_1508 ?_
  refine wL_law_1510 ?_
  refine wL_law_1511 ?_
  refine wL_law_1512 (j := 6 * c + 1) (nI_add _ 1) (by omega) (by omega) ?_
  refine wL_law_1513 ?_
  refine wL_law_1514 ?_
  refine wL_law_1516 ?_
  refine wL_law_1517 ?_
  refine wL_law_1518 (j := 6 * c + 2) (nI_add _ 2) (by omega) (by omega) ?_
  refine wL_law_1519 hM2.c (sX9_teamRank hR (by omega) hM2 hO (fun h3 M2 b hM3 hq3 e4 hb hR2 => ?_))
  have hL3 := hL2.o hq3 (Or.inl (Nat.le_refl _))
  have ho3 := (hq3 (L + 754) (Or.inr (by omega))).trans ho2
  have hd3 := (hq3 (L + 755) (Or.inr (by omega))).trans hd2
  refine wL_law_1522 ?_
  refine wL_law_1524 ?_
  refine wL_law_1525 hM3.c (mX9_thrown hM3 ?_)
  refine wL_law_1528 ?_
  refine wL_law_1530 (fun c1530 => ?_) (fun c1530 => absurd e4 c1530)
  refine wL_law_1535 ?_
  refine wL_law_1537 (fun c1537 => ?_) (fun c1537 => ?_)
  · refine wL_law_1552 ?_
    exact law_go hk ⟨_, _, _, _, hL3, hM3, ho3, hd3, hR2⟩
  · refine wL_law_1540 ?_
    refine wL_law_1541 ?_
    refine wL_law_1542 ho3 (j := 0) rfl (by decide) (by decide) ?_
    refine wL_law_1543 ?_
    refine wL_law_1545 ?_
    refine wL_law_1546 (fun c1546 => ?_) (fun c1546 => absurd ((hv c1537).trans (hb c1537).symm) c1546)
    refine wL_law_1552 ?_
    exact law_go hk ⟨_, _, _, _, hL3, hM3, ho3, hd3, hR2⟩
theorem law_playerValue {L c bc bs : Nat} {Kr : q_KR} (hI : LI h L c) (hc : c < 512) (hj : 6 * c + 6 ≤ e_sL V) (hn : e_sL V ≤ 3072) (hk : ∀ h2 z2, LI h2 L (c + 1) → QW V iL_law 2751 (lawls V L (nI (6 * c)) none none none) [] h2 z2 bc bs Kr Kx) : QW V iL_law 1555 (lawls V L (nI (6 * c)) none none none) [] h z (bc + 6) (bs + 36) Kr Kx := by
  obtain ⟨S, M, f, g, hL, hM, ho, hd, hR⟩ := hI
  refine q_budle (bc' := bc + 3) (bs' := bs + 18) (by omega) (by omega) ?_
  refine wL_law_1555 ?_
  refine wL_law_1556 ?_
  refine wL_law_1557 ?_
  refine wL_law_1559 ?_
  refine wL_law_1560 ?_
  refine wL_law_1561 (j := 6 * c + 1) (nI_add _ 1) (by omega) (by omega) ?_
  refine wL_law_1562 ?_
  refine wL_law_1563 ?_
  refine wL_law_1565 ?_
  refine wL_law_1566 ?_
  refine wL_law_1567 (j := 6 * c + 2) (nI_add _ 2) (by omega) (by omega) ?_
  refine wL_law_1568 ?_
  refine wL_law_1569 (sL_playerValue hL hR.1 ho (by omega) (fun k v S' h2 f2 z2 hO hL2 hc2 hv hq => ?_))
  have hM2 : isM h2 (L + 741) M := hM.oo (fun q a1 a2 => hq q (Or.inr (by omega)) (by omega))
  have ho2 := hc2
  have hd2 := (hq (L + 755) (Or.inr (by omega)) (by omega)).trans hd
  refine wL_law_1572 ?_
  refine wL_law_1574 ?_
  refine wL_law_1575 ?_
  refine wL_law_1576 ?_
  refine wL_law_1578 ?_
  refine wL_law_1579 ?_
  refine wL_law_1580 (j := 6 * c + 1) (nI_add _ 1) (by omega) (by omega) ?_
  refine wL_law_1581 ?_
  refine wL_law_1582 ?_
  refine wL_law_1584 ?_
  refine wL_law_1585 ?_
  refine wL_law_1586 (j := 6 * c + 2) (nI_add _ 2) (by omega) (by omega) ?_
  refine wL_law_1587 hM2.c (sX9_playerValue hR (by omega) hM2 hO (fun h3 M2 b hM3 hq3 e4 hb hR2 => ?_))
  have hL3 := hL2.o hq3 (Or.inl (Nat.le_refl _))
  have ho3 := (hq3 (L + 754) (Or.inr (by omega))).trans ho2
  have hd3 := (hq3 (L + 755) (Or.inr (by omega))).trans hd2
  refine wL_law_1590 ?_
  refine wL_law_1592 ?_
  refine wL_law_1593 hM3.c (mX9_thrown hM3 ?_)
  refine wL_law_1596 ?_
  refine wL_law_1598 (fun c1598 => ?_) (fun c1598 => absurd e4 c1598)
  refine wL_law_1603 ?_
  refine wL_law_1605 (fun c1605 => ?_) (fun c1605 => ?_)
  · refine wL_law_1620 ?_
    exact law_go hk ⟨_, _, _, _, hL3, hM3, ho3, hd3, hR2⟩
  · refine wL_law_1608 ?_
    refine wL_law_1609 ?_
    refine wL_law_1610 ho3 (j := 0) rfl (by decide) (by decide) ?_
    refine wL_law_1611 ?_
    refine wL_law_1613 ?_
    refine wL_law_1614 (fun c1614 => ?_) (fun c1614 => absurd ((hv c1605).trans (hb c1605).symm) c1614)
    refine wL_law_1620 ?_
    exact law_go hk ⟨_, _, _, _, hL3, hM3, ho3, hd3, hR2⟩
theorem law_salary {L c bc bs : Nat} {Kr : q_KR} (hI : LI h L c) (hc : c < 512) (hj : 6 * c + 6 ≤ e_sL V) (hn : e_sL V ≤ 3072) (hk : ∀ h2 z2, LI h2 L (c + 1) → QW V iL_law 2751 (lawls V L (nI (6 * c)) none none none) [] h2 z2 bc bs Kr Kx) : QW V iL_law 1623 (lawls V L (nI (6 * c)) none none none) [] h z (bc + 6) (bs + 36) Kr Kx := by
  obtain ⟨S, M, f, g, hL, hM, ho, hd, hR⟩ := hI
  refine q_budle (bc' := bc + 3) (bs' := bs + 18) (by omega) (by omega) ?_
  refine wL_law_1623 ?_
  refine wL_law_1624 ?_
  refine wL_law_1625 ?_
  refine wL_law_1627 ?_
  refine wL_law_1628 ?_
  refine wL_law_1629 (j := 6 * c + 1) (nI_add _ 1) (by omega) (by omega) ?_
  refine wL_law_1630 ?_
  refine wL_law_1631 ?_
  refine wL_law_1633 ?_
  refine wL_law_1634 ?_
  refine wL_law_1635 (j := 6 * c + 2) (nI_add _ 2) (by omega) (by omega) ?_
  refine wL_law_1636 ?_
  refine wL_law_1637 (sL_salary hL hR.1 ho (by omega) (fun k v S' h2 f2 z2 hO hL2 hc2 hv hq => ?_))
  have hM2 : isM h2 (L + 741) M := hM.oo (fun q a1 a2 => hq q (Or.inr (by omega)) (by omega))
  have ho2 := hc2
  have hd2 := (hq (L + 755) (Or.inr (by omega)) (by omega)).trans hd
  refine wL_law_1640 ?_
  refine wL_law_1642 ?_
  refine wL_law_1643 ?_
  refine wL_law_1644 ?_
  refine wL_law_1646 ?_
  refine wL_law_1647 ?_
  refine wL_law_1648 (j := 6 * c + 1) (nI_add _ 1) (by omega) (by omega) ?_
  refine wL_law_1649 ?_
  refine wL_law_1650 ?_
  refine wL_law_1652 ?_
  refine wL_law_1653 ?_
  refine wL_law_1654 (j := 6 * c + 2) (nI_add _ 2) (by omega) (by omega) ?_
  refine wL_law_1655 hM2.c (sX9_salary hR (by omega) hM2 hO (fun h3 M2 b hM3 hq3 e4 hb hR2 => ?_))
  have hL3 := hL2.o hq3 (Or.inl (Nat.le_refl _))
  have ho3 := (hq3 (L + 754) (Or.inr (by omega))).trans ho2
  have hd3 := (hq3 (L + 755) (Or.inr (by omega))).trans hd2
  refine wL_law_1658 ?_
  refine wL_law_1660 ?_
  refine wL_law_1661 hM3.c (mX9_thrown hM3 ?_)
  refine wL_law_1664 ?_
  refine wL_law_1666 (fun c1666 => ?_) (fun c1666 => absurd e4 c1666)
  refine wL_law_1671 ?_
  refine wL_law_1673 (fun c1673 => ?_) (fun c1673 => ?_)
  · refine wL_law_1688 ?_
    exact law_go hk ⟨_, _, _, _, hL3, hM3, ho3, hd3, hR2⟩
  · refine wL_law_1676 ?_
    refine wL_law_1677 ?_
    refine wL_law_1678 ho3 (j := 0) rfl (by decide) (by decide) ?_
    refine wL_law_1679 ?_
    refine wL_law_1681 ?_
    refine wL_law_1682 (fun c1682 => ?_) (fun c1682 => absurd ((hv c1673).trans (hb c1673).symm) c1682)
    refine wL_law_1688 ?_
    exact law_go hk ⟨_, _, _, _, hL3, hM3, ho3, hd3, hR2⟩
theorem law_share {L c bc bs : Nat} {Kr : q_KR} (hI : LI h L c) (hc : c < 512) (hj : 6 * c + 6 ≤ e_sL V) (hn : e_sL V ≤ 3072) (hk : ∀ h2 z2, LI h2 L (c + 1) → QW V iL_law 2751 (lawls V L (nI (6 * c)) none none none) [] h2 z2 bc bs Kr Kx) : QW V iL_law 1691 (lawls V L (nI (6 * c)) none none none) [] h z (bc + 6) (bs + 36) Kr Kx := by
  obtain ⟨S, M, f, g, hL, hM, ho, hd, hR⟩ := hI
  refine q_budle (bc' := bc + 3) (bs' := bs + 18) (by omega) (by omega) ?_
  refine wL_law_1691 ?_
  refine wL_law_1692 ?_
  refine wL_law_1693 ?_
  refine wL_law_1695 ?_
  refine wL_law_1696 ?_
  refine wL_law_1697 (j := 6 * c + 1) (nI_add _ 1) (by omega) (by omega) ?_
  refine wL_law_1698 ?_
  refine wL_law_1699 ?_
  refine wL_law_1701 ?_
  refine wL_law_1702 ?_
  refine wL_law_1703 (j := 6 * c + 2) (nI_add _ 2) (by omega) (by omega) ?_
  refine wL_law_1704 ?_
  refine wL_law_1705 (sL_share hL hR.1 ho (by omega) (fun k v S' h2 f2 z2 hO hL2 hc2 hv hq => ?_))
  have hM2 : isM h2 (L + 741) M := hM.oo (fun q a1 a2 => hq q (Or.inr (by omega)) (by omega))
  have ho2 := hc2
  have hd2 := (hq (L + 755) (Or.inr (by omega)) (by omega)).trans hd
  refine wL_law_1708 ?_
  refine wL_law_1710 ?_
  refine wL_law_1711 ?_
  refine wL_law_1712 ?_
  refine wL_law_1714 ?_
  refine wL_law_1715 ?_
  refine wL_law_1716 (j := 6 * c + 1) (nI_add _ 1) (by omega) (by omega) ?_
  refine wL_law_1717 ?_
  refine wL_law_1718 ?_
  refine wL_law_1720 ?_
  refine wL_law_1721 ?_
  refine wL_law_1722 (j := 6 * c + 2) (nI_add _ 2) (by omega) (by omega) ?_
  refine wL_law_1723 hM2.c (sX9_share hR (by omega) hM2 hO (fun h3 M2 b hM3 hq3 e4 hb hR2 => ?_))
  have hL3 := hL2.o hq3 (Or.inl (Nat.le_refl _))
  have ho3 := (hq3 (L + 754) (Or.inr (by omega))).trans ho2
  have hd3 := (hq3 (L + 755) (Or.inr (by omega))).trans hd2
  refine wL_law_1726 ?_
  refine wL_law_1728 ?_
  refine wL_law_1729 hM3.c (mX9_thrown hM3 ?_)
  refine wL_law_1732 ?_
  refine wL_law_1734 (fun c1734 => ?_) (fun c1734 => absurd e4 c1734)
  refine wL_law_1739 ?_
  refine wL_law_1741 (fun c1741 => ?_) (fun c1741 => ?_)
  · refine wL_law_1756 ?_
    exact law_go hk ⟨_, _, _, _, hL3, hM3, ho3, hd3, hR2⟩
  · refine wL_law_1744 ?_
    refine wL_law_1745 ?_
    refine wL_law_1746 ho3 (j := 0) rfl (by decide) (by decide) ?_
    refine wL_law_1747 ?_
    refine wL_law_1749 ?_
    refine wL_law_1750 (fun c1750 => ?_) (fun c1750 => absurd ((hv c1741).trans (hb c1741).symm) c1750)
    refine wL_law_1756 ?_
    exact law_go hk ⟨_, _, _, _, hL3, hM3, ho3, hd3, hR2⟩
theorem law_playerRank {L c bc bs : Nat} {Kr : q_KR} (hI : LI h L c) (hc : c < 512) (hj : 6 * c + 6 ≤ e_sL V) (hn : e_sL V ≤ 3072) (hk : ∀ h2 z2, LI h2 L (c + 1) → QW V iL_law 2751 (lawls V L (nI (6 * c)) none none none) [] h2 z2 bc bs Kr Kx) : QW V iL_law 1759 (lawls V L (nI (6 * c)) none none none) [] h z (bc + 6) (bs + 36) Kr Kx := by
  obtain ⟨S, M, f, g, hL, hM, ho, hd, hR⟩ := hI
  refine q_budle (bc' := bc + 3) (bs' := bs + 18) (by omega) (by omega) ?_
  refine wL_law_1759 ?_
  refine wL_law_1760 ?_
  refine wL_law_1761 ?_
  refine wL_law_1763 ?_
  refine wL_law_1764 ?_
  refine wL_law_1765 (j := 6 * c + 1) (nI_add _ 1) (by omega) (by omega) ?_
  refine wL_law_1766 ?_
  refine wL_law_1767 (sL_playerRank hL hR.1 ho (by omega) (fun k v S' h2 f2 z2 hO hL2 hc2 hv hq => ?_))
  have hM2 : isM h2 (L + 741) M := hM.oo (fun q a1 a2 => hq q (Or.inr (by omega)) (by omega))
  have ho2 := hc2
  have hd2 := (hq (L + 755) (Or.inr (by omega)) (by omega)).trans hd
  refine wL_law_1770 ?_
  refine wL_law_1772 ?_
  refine wL_law_1773 ?_
  refine wL_law_1774 ?_
  refine wL_law_1776 ?_
  refine wL_law_1777 ?_
  refine wL_law_1778 (j := 6 * c + 1) (nI_add _ 1) (by omega) (by omega) ?_
  refine wL_law_1779 hM2.c (sX9_playerRank hR (by omega) hM2 hO (fun h3 M2 b hM3 hq3 e4 hb hR2 => ?_))
  have hL3 := hL2.o hq3 (Or.inl (Nat.le_refl _))
  have ho3 := (hq3 (L + 754) (Or.inr (by omega))).trans ho2
  have hd3 := (hq3 (L + 755) (Or.inr (by omega))).trans hd2
  refine wL_law_1782 ?_
  refine wL_law_1784 ?_
  refine wL_law_1785 hM3.c (mX9_thrown hM3 ?_)
  refine wL_law_1788 ?_
  refine wL_law_1790 (fun c1790 => ?_) (fun c1790 => absurd e4 c1790)
  refine wL_law_1795 ?_
  refine wL_law_1797 (fun c1797 => ?_) (fun c1797 => ?_)
  · refine wL_law_1812 ?_
    exact law_go hk ⟨_, _, _, _, hL3, hM3, ho3, hd3, hR2⟩
  · refine wL_law_1800 ?_
    refine wL_law_1801 ?_
    refine wL_law_1802 ho3 (j := 0) rfl (by decide) (by decide) ?_
    refine wL_law_1803 ?_
    refine wL_law_1805 ?_
    refine wL_law_1806 (fun c1806 => ?_) (fun c1806 => absurd ((hv c1797).trans (hb c1797).symm) c1806)
    refine wL_law_1812 ?_
    exact law_go hk ⟨_, _, _, _, hL3, hM3, ho3, hd3, hR2⟩
theorem law_meanSalary {L c bc bs : Nat} {Kr : q_KR} (hI : LI h L c) (hc : c < 512) (hj : 6 * c + 6 ≤ e_sL V) (hn : e_sL V ≤ 3072) (hk : ∀ h2 z2, LI h2 L (c + 1) → QW V iL_law 2751 (lawls V L (nI (6 * c)) none none none) [] h2 z2 bc bs Kr Kx) : QW V iL_law 1815 (lawls V L (nI (6 * c)) none none none) [] h z (bc + 6) (bs + 36) Kr Kx := by
  obtain ⟨S, M, f, g, hL, hM, ho, hd, hR⟩ := hI
  refine q_budle (bc' := bc + 3) (bs' := bs + 18) (by omega) (by omega) ?_
  refine wL_law_1815 ?_
  refine wL_law_1816 ?_
  refine wL_law_1817 ?_
  refine wL_law_1819 ?_
  refine wL_law_1820 ?_
  refine wL_law_1821 (j := 6 * c + 1) (nI_add _ 1) (by omega) (by omega) ?_
  refine wL_law_1822 ?_
  refine wL_law_1824 (sL_meanSalary hL hR.1 hd (by omega) (fun k v S' h2 f2 z2 hO hL2 hc2 hv hq => ?_))
  have hM2 : isM h2 (L + 741) M := hM.oo (fun q a1 a2 => hq q (Or.inr (by omega)) (by omega))
  have hd2 := hc2
  have ho2 := (hq (L + 754) (Or.inr (by omega)) (by omega)).trans ho
  refine wL_law_1827 ?_
  refine wL_law_1829 ?_
  refine wL_law_1830 ?_
  refine wL_law_1831 ?_
  refine wL_law_1833 ?_
  refine wL_law_1834 ?_
  refine wL_law_1835 (j := 6 * c + 1) (nI_add _ 1) (by omega) (by omega) ?_
  refine wL_law_1836 hM2.c (sX9_meanSalary hR (by omega) hM2 hO (fun h3 M2 b hM3 hq3 e4 hb hR2 => ?_))
  have hL3 := hL2.o hq3 (Or.inl (Nat.le_refl _))
  have ho3 := (hq3 (L + 754) (Or.inr (by omega))).trans ho2
  have hd3 := (hq3 (L + 755) (Or.inr (by omega))).trans hd2
  refine wL_law_1839 ?_
  refine wL_law_1841 ?_
  refine wL_law_1842 hM3.c (mX9_thrown hM3 ?_)
  refine wL_law_1845 ?_
  refine wL_law_1847 (fun c1847 => ?_) (fun c1847 => absurd e4 c1847)
  refine wL_law_1852 ?_
  refine wL_law_1854 (fun c1854 => ?_) (fun c1854 => ?_)
  · refine wL_law_1889 ?_
    exact law_go hk ⟨_, _, _, _, hL3, hM3, ho3, hd3, hR2⟩
  · have q1 := hv c1854
    have q2 := hb c1854
    subst q2
    refine wL_law_1857 ?_
    refine wL_law_1859 ?_
    refine wL_law_1860 hd3 (j := 0) rfl (by decide) (by decide) ?_
    refine wL_law_1861 ?_
    refine wL_law_1863 ?_
    rw [q1]
    refine wL_law_1864 (fun c1864 => ?_) (fun c1864 => ?_)
    · refine wL_law_1889 ?_
      exact law_go hk ⟨_, _, _, _, hL3, hM3, ho3, hd3, hR2⟩
    · refine wL_law_1867 ?_
      refine wL_law_1869 ?_
      refine wL_law_1870 hd3 (j := 0) rfl (by decide) (by decide) ?_
      refine wL_law_1871 ?_
      refine wL_law_1873 ?_
      refine wL_law_1874 hd3 (j := 0) rfl (by decide) (by decide) ?_
      refine wL_law_1875 ?_
      rw [q1]
      refine wL_law_1876 (fun c1876 => absurd c1876 c1864) (fun c1876 => ?_)
      refine wL_law_1879 ?_
      refine wL_law_1881 ?_
      refine wL_law_1883 ?_
      refine wL_law_1884 (fun c1884 => ?_) (fun c1884 => absurd c1884 c1864)
      refine wL_law_1889 ?_
      exact law_go hk ⟨_, _, _, _, hL3, hM3, ho3, hd3, hR2⟩
theorem law_signCode {L c bc bs : Nat} {Kr : q_KR} (hI : LI h L c) (hc : c < 512) (hj : 6 * c + 6 ≤ e_sL V) (hn : e_sL V ≤ 3072) (hk : ∀ h2 z2, LI h2 L (c + 1) → QW V iL_law 2751 (lawls V L (nI (6 * c)) none none none) [] h2 z2 bc bs Kr Kx) : QW V iL_law 1892 (lawls V L (nI (6 * c)) none none none) [] h z (bc + 6) (bs + 36) Kr Kx := by
  obtain ⟨S, M, f, g, hL, hM, ho, hd, hR⟩ := hI
  refine q_budle (bc' := bc + 4) (bs' := bs + 24) (by omega) (by omega) ?_
  refine wL_law_1892 ?_
  refine wL_law_1893 ?_
  refine wL_law_1894 ?_
  refine wL_law_1896 ?_
  refine wL_law_1897 ?_
  refine wL_law_1898 (j := 6 * c + 1) (nI_add _ 1) (by omega) (by omega) ?_
  refine wL_law_1899 ?_
  refine wL_law_1900 ?_
  refine wL_law_1902 ?_
  refine wL_law_1903 ?_
  refine wL_law_1904 (j := 6 * c + 2) (nI_add _ 2) (by omega) (by omega) ?_
  refine wL_law_1905 ?_
  refine wL_law_1906 ?_
  refine wL_law_1908 ?_
  refine wL_law_1909 ?_
  refine wL_law_1910 (j := 6 * c + 3) (nI_add _ 3) (by omega) (by omega) ?_
  refine wL_law_1911 ?_
  refine wL_law_1912 (sL_signCode hL hR.1 ho (by omega) (fun k v S' h2 f2 z2 hO hL2 hc2 hv hq => ?_))
  have hM2 : isM h2 (L + 741) M := hM.oo (fun q a1 a2 => hq q (Or.inr (by omega)) (by omega))
  have ho2 := hc2
  have hd2 := (hq (L + 755) (Or.inr (by omega)) (by omega)).trans hd
  refine wL_law_1915 ?_
  refine wL_law_1917 ?_
  refine wL_law_1918 ?_
  refine wL_law_1919 ?_
  refine wL_law_1921 ?_
  refine wL_law_1922 ?_
  refine wL_law_1923 (j := 6 * c + 1) (nI_add _ 1) (by omega) (by omega) ?_
  refine wL_law_1924 ?_
  refine wL_law_1925 ?_
  refine wL_law_1927 ?_
  refine wL_law_1928 ?_
  refine wL_law_1929 (j := 6 * c + 2) (nI_add _ 2) (by omega) (by omega) ?_
  refine wL_law_1930 ?_
  refine wL_law_1931 ?_
  refine wL_law_1933 ?_
  refine wL_law_1934 ?_
  refine wL_law_1935 (j := 6 * c + 3) (nI_add _ 3) (by omega) (by omega) ?_
  refine wL_law_1936 hM2.c (sX9_signCode hR (by omega) hM2 hO (fun h3 M2 b hM3 hq3 e4 hb hR2 => ?_))
  have hL3 := hL2.o hq3 (Or.inl (Nat.le_refl _))
  have ho3 := (hq3 (L + 754) (Or.inr (by omega))).trans ho2
  have hd3 := (hq3 (L + 755) (Or.inr (by omega))).trans hd2
  refine wL_law_1939 ?_
  refine wL_law_1941 ?_
  refine wL_law_1942 hM3.c (mX9_thrown hM3 ?_)
  refine wL_law_1945 ?_
  refine wL_law_1947 (fun c1947 => ?_) (fun c1947 => absurd e4 c1947)
  refine wL_law_1952 ?_
  refine wL_law_1954 (fun c1954 => ?_) (fun c1954 => ?_)
  · refine wL_law_1969 ?_
    exact law_go hk ⟨_, _, _, _, hL3, hM3, ho3, hd3, hR2⟩
  · refine wL_law_1957 ?_
    refine wL_law_1958 ?_
    refine wL_law_1959 ho3 (j := 0) rfl (by decide) (by decide) ?_
    refine wL_law_1960 ?_
    refine wL_law_1962 ?_
    refine wL_law_1963 (fun c1963 => ?_) (fun c1963 => absurd ((hv c1954).trans (hb c1954).symm) c1963)
    refine wL_law_1969 ?_
    exact law_go hk ⟨_, _, _, _, hL3, hM3, ho3, hd3, hR2⟩
theorem law_bestRule {L c bc bs : Nat} {Kr : q_KR} (hI : LI h L c) (hc : c < 512) (hj : 6 * c + 6 ≤ e_sL V) (hn : e_sL V ≤ 3072) (hk : ∀ h2 z2, LI h2 L (c + 1) → QW V iL_law 2751 (lawls V L (nI (6 * c)) none none none) [] h2 z2 bc bs Kr Kx) : QW V iL_law 1972 (lawls V L (nI (6 * c)) none none none) [] h z (bc + 6) (bs + 36) Kr Kx := by
  obtain ⟨S, M, f, g, hL, hM, ho, hd, hR⟩ := hI
  refine q_budle (bc' := bc + 3) (bs' := bs + 18) (by omega) (by omega) ?_
  refine wL_law_1972 ?_
  refine wL_law_1973 ?_
  refine wL_law_1974 ?_
  refine wL_law_1976 ?_
  refine wL_law_1977 ?_
  refine wL_law_1978 (j := 6 * c + 1) (nI_add _ 1) (by omega) (by omega) ?_
  refine wL_law_1979 ?_
  refine wL_law_1980 ?_
  refine wL_law_1982 ?_
  refine wL_law_1983 ?_
  refine wL_law_1984 (j := 6 * c + 2) (nI_add _ 2) (by omega) (by omega) ?_
  refine wL_law_1985 ?_
  refine wL_law_1986 (sL_bestRule hL hR.1 ho (by omega) (fun k v S' h2 f2 z2 hO hL2 hc2 hv hq => ?_))
  have hM2 : isM h2 (L + 741) M := hM.oo (fun q a1 a2 => hq q (Or.inr (by omega)) (by omega))
  have ho2 := hc2
  have hd2 := (hq (L + 755) (Or.inr (by omega)) (by omega)).trans hd
  refine wL_law_1989 ?_
  refine wL_law_1991 ?_
  refine wL_law_1992 ?_
  refine wL_law_1993 ?_
  refine wL_law_1995 ?_
  refine wL_law_1996 ?_
  refine wL_law_1997 (j := 6 * c + 1) (nI_add _ 1) (by omega) (by omega) ?_
  refine wL_law_1998 ?_
  refine wL_law_1999 ?_
  refine wL_law_2001 ?_
  refine wL_law_2002 ?_
  refine wL_law_2003 (j := 6 * c + 2) (nI_add _ 2) (by omega) (by omega) ?_
  refine wL_law_2004 hM2.c (sX9_bestRule hR (by omega) hM2 hO (fun h3 M2 b hM3 hq3 e4 hb hR2 => ?_))
  have hL3 := hL2.o hq3 (Or.inl (Nat.le_refl _))
  have ho3 := (hq3 (L + 754) (Or.inr (by omega))).trans ho2
  have hd3 := (hq3 (L + 755) (Or.inr (by omega))).trans hd2
  refine wL_law_2007 ?_
  refine wL_law_2009 ?_
  refine wL_law_2010 hM3.c (mX9_thrown hM3 ?_)
  refine wL_law_2013 ?_
  refine wL_law_2015 (fun c2015 => ?_) (fun c2015 => absurd e4 c2015)
  refine wL_law_2020 ?_
  refine wL_law_2022 (fun c2022 => ?_) (fun c2022 => ?_)
  · refine wL_law_2037 ?_
    exact law_go hk ⟨_, _, _, _, hL3, hM3, ho3, hd3, hR2⟩
  · refine wL_law_2025 ?_
    refine wL_law_2026 ?_
    refine wL_law_2027 ho3 (j := 0) rfl (by decide) (by decide) ?_
    refine wL_law_2028 ?_
    refine wL_law_2030 ?_
    refine wL_law_2031 (fun c2031 => ?_) (fun c2031 => absurd ((hv c2022).trans (hb c2022).symm) c2031)
    refine wL_law_2037 ?_
    exact law_go hk ⟨_, _, _, _, hL3, hM3, ho3, hd3, hR2⟩
theorem law_greatestBase {L c bc bs : Nat} {Kr : q_KR} (hI : LI h L c) (hc : c < 512) (hj : 6 * c + 6 ≤ e_sL V) (hn : e_sL V ≤ 3072) (hk : ∀ h2 z2, LI h2 L (c + 1) → QW V iL_law 2751 (lawls V L (nI (6 * c)) none none none) [] h2 z2 bc bs Kr Kx) : QW V iL_law 2040 (lawls V L (nI (6 * c)) none none none) [] h z (bc + 6) (bs + 36) Kr Kx := by
  obtain ⟨S, M, f, g, hL, hM, ho, hd, hR⟩ := hI
  refine q_budle (bc' := bc + 4) (bs' := bs + 24) (by omega) (by omega) ?_
  refine wL_law_2040 ?_
  refine wL_law_2041 ?_
  refine wL_law_2042 ?_
  refine wL_law_2044 ?_
  refine wL_law_2045 ?_
  refine wL_law_2046 (j := 6 * c + 1) (nI_add _ 1) (by omega) (by omega) ?_
  refine wL_law_2047 ?_
  refine wL_law_2048 ?_
  refine wL_law_2050 ?_
  refine wL_law_2051 ?_
  refine wL_law_2052 (j := 6 * c + 2) (nI_add _ 2) (by omega) (by omega) ?_
  refine wL_law_2053 ?_
  refine wL_law_2054 ?_
  refine wL_law_2056 ?_
  refine wL_law_2057 ?_
  refine wL_law_2058 (j := 6 * c + 3) (nI_add _ 3) (by omega) (by omega) ?_
  refine wL_law_2059 ?_
  refine wL_law_2060 (sL_greatestBase hL hR.1 ho (by omega) (fun k v S' h2 f2 z2 hO hL2 hc2 hv hq => ?_))
  have hM2 : isM h2 (L + 741) M := hM.oo (fun q a1 a2 => hq q (Or.inr (by omega)) (by omega))
  have ho2 := hc2
  have hd2 := (hq (L + 755) (Or.inr (by omega)) (by omega)).trans hd
  refine wL_law_2063 ?_
  refine wL_law_2065 ?_
  refine wL_law_2066 ?_
  refine wL_law_2067 ?_
  refine wL_law_2069 ?_
  refine wL_law_2070 ?_
  refine wL_law_2071 (j := 6 * c + 1) (nI_add _ 1) (by omega) (by omega) ?_
  refine wL_law_2072 ?_
  refine wL_law_2073 ?_
  refine wL_law_2075 ?_
  refine wL_law_2076 ?_
  refine wL_law_2077 (j := 6 * c + 2) (nI_add _ 2) (by omega) (by omega) ?_
  refine wL_law_2078 ?_
  refine wL_law_2079 ?_
  refine wL_law_2081 ?_
  refine wL_law_2082 ?_
  refine wL_law_2083 (j := 6 * c + 3) (nI_add _ 3) (by omega) (by omega) ?_
  refine wL_law_2084 hM2.c (sX9_greatestBase hR (by omega) hM2 hO (fun h3 M2 b hM3 hq3 e4 hb hR2 => ?_))
  have hL3 := hL2.o hq3 (Or.inl (Nat.le_refl _))
  have ho3 := (hq3 (L + 754) (Or.inr (by omega))).trans ho2
  have hd3 := (hq3 (L + 755) (Or.inr (by omega))).trans hd2
  refine wL_law_2087 ?_
  refine wL_law_2089 ?_
  refine wL_law_2090 hM3.c (mX9_thrown hM3 ?_)
  refine wL_law_2093 ?_
  refine wL_law_2095 (fun c2095 => ?_) (fun c2095 => absurd e4 c2095)
  refine wL_law_2100 ?_
  refine wL_law_2102 (fun c2102 => ?_) (fun c2102 => ?_)
  · refine wL_law_2117 ?_
    exact law_go hk ⟨_, _, _, _, hL3, hM3, ho3, hd3, hR2⟩
  · refine wL_law_2105 ?_
    refine wL_law_2106 ?_
    refine wL_law_2107 ho3 (j := 0) rfl (by decide) (by decide) ?_
    refine wL_law_2108 ?_
    refine wL_law_2110 ?_
    refine wL_law_2111 (fun c2111 => ?_) (fun c2111 => absurd ((hv c2102).trans (hb c2102).symm) c2111)
    refine wL_law_2117 ?_
    exact law_go hk ⟨_, _, _, _, hL3, hM3, ho3, hd3, hR2⟩
theorem law_releaseCost {L c bc bs : Nat} {Kr : q_KR} (hI : LI h L c) (hc : c < 512) (hj : 6 * c + 6 ≤ e_sL V) (hn : e_sL V ≤ 3072) (hk : ∀ h2 z2, LI h2 L (c + 1) → QW V iL_law 2751 (lawls V L (nI (6 * c)) none none none) [] h2 z2 bc bs Kr Kx) : QW V iL_law 2120 (lawls V L (nI (6 * c)) none none none) [] h z (bc + 6) (bs + 36) Kr Kx := by
  obtain ⟨S, M, f, g, hL, hM, ho, hd, hR⟩ := hI
  refine q_budle (bc' := bc + 3) (bs' := bs + 18) (by omega) (by omega) ?_
  by_cases hx : e_xs V (6 * c + 2) = 0
  · refine wL_law_2120 ?_
    refine wL_law_2121 ?_
    refine wL_law_2122 ?_
    refine wL_law_2124 ?_
    refine wL_law_2125 ?_
    refine wL_law_2126 (j := 6 * c + 1) (nI_add _ 1) (by omega) (by omega) ?_
    refine wL_law_2127 ?_
    refine wL_law_2128 ?_
    refine wL_law_2130 ?_
    refine wL_law_2131 ?_
    refine wL_law_2132 (j := 6 * c + 2) (nI_add _ 2) (by omega) (by omega) ?_
    refine wL_law_2133 (fun c2133 => ?_) (fun c2133 => absurd hx c2133)
    refine wL_law_2140 ?_
    refine wL_law_2141 ?_
    refine wL_law_2142 ?_
    refine wL_law_2144 ?_
    refine wL_law_2145 ?_
    refine wL_law_2146 (j := 6 * c + 3) (nI_add _ 3) (by omega) (by omega) ?_
    refine wL_law_2147 ?_
    refine wL_law_2148 (sL_releaseCost hL hR.1 ho (by omega) (fun k v S' h2 f2 z2 hO hL2 hc2 hv hq => ?_))
    have hM2 : isM h2 (L + 741) M := hM.oo (fun q a1 a2 => hq q (Or.inr (by omega)) (by omega))
    have ho2 := hc2
    have hd2 := (hq (L + 755) (Or.inr (by omega)) (by omega)).trans hd
    refine wL_law_2151 ?_
    refine wL_law_2153 ?_
    refine wL_law_2154 ?_
    refine wL_law_2155 ?_
    refine wL_law_2157 ?_
    refine wL_law_2158 ?_
    refine wL_law_2159 (j := 6 * c + 1) (nI_add _ 1) (by omega) (by omega) ?_
    refine wL_law_2160 ?_
    refine wL_law_2161 ?_
    refine wL_law_2163 ?_
    refine wL_law_2164 ?_
    refine wL_law_2165 (j := 6 * c + 2) (nI_add _ 2) (by omega) (by omega) ?_
    refine wL_law_2166 (fun c2166 => ?_) (fun c2166 => absurd hx c2166)
    refine wL_law_2173 ?_
    refine wL_law_2174 ?_
    refine wL_law_2175 ?_
    refine wL_law_2177 ?_
    refine wL_law_2178 ?_
    refine wL_law_2179 (j := 6 * c + 3) (nI_add _ 3) (by omega) (by omega) ?_
    refine wL_law_2180 hM2.c (sX9_releaseCost hR (by omega) hM2 hO (fun h3 M2 b hM3 hq3 e4 hb hR2 => ?_))
    have hL3 := hL2.o hq3 (Or.inl (Nat.le_refl _))
    have ho3 := (hq3 (L + 754) (Or.inr (by omega))).trans ho2
    have hd3 := (hq3 (L + 755) (Or.inr (by omega))).trans hd2
    refine wL_law_2183 ?_
    refine wL_law_2185 ?_
    refine wL_law_2186 hM3.c (mX9_thrown hM3 ?_)
    refine wL_law_2189 ?_
    refine wL_law_2191 (fun c2191 => ?_) (fun c2191 => absurd e4 c2191)
    refine wL_law_2196 ?_
    refine wL_law_2198 (fun c2198 => ?_) (fun c2198 => ?_)
    · refine wL_law_2213 ?_
      exact law_go hk ⟨_, _, _, _, hL3, hM3, ho3, hd3, hR2⟩
    · refine wL_law_2201 ?_
      refine wL_law_2202 ?_
      refine wL_law_2203 ho3 (j := 0) rfl (by decide) (by decide) ?_
      refine wL_law_2204 ?_
      refine wL_law_2206 ?_
      refine wL_law_2207 (fun c2207 => ?_) (fun c2207 => absurd ((hv c2198).trans (hb c2198).symm) c2207)
      refine wL_law_2213 ?_
      exact law_go hk ⟨_, _, _, _, hL3, hM3, ho3, hd3, hR2⟩
  · refine wL_law_2120 ?_
    refine wL_law_2121 ?_
    refine wL_law_2122 ?_
    refine wL_law_2124 ?_
    refine wL_law_2125 ?_
    refine wL_law_2126 (j := 6 * c + 1) (nI_add _ 1) (by omega) (by omega) ?_
    refine wL_law_2127 ?_
    refine wL_law_2128 ?_
    refine wL_law_2130 ?_
    refine wL_law_2131 ?_
    refine wL_law_2132 (j := 6 * c + 2) (nI_add _ 2) (by omega) (by omega) ?_
    refine wL_law_2133 (fun c2133 => absurd c2133 hx) (fun c2133 => ?_)
    refine wL_law_2136 ?_
    refine wL_law_2137 ?_
    refine wL_law_2141 ?_
    refine wL_law_2142 ?_
    refine wL_law_2144 ?_
    refine wL_law_2145 ?_
    refine wL_law_2146 (j := 6 * c + 3) (nI_add _ 3) (by omega) (by omega) ?_
    refine wL_law_2147 ?_
    refine wL_law_2148 (sL_releaseCost hL hR.1 ho (by omega) (fun k v S' h2 f2 z2 hO hL2 hc2 hv hq => ?_))
    have hM2 : isM h2 (L + 741) M := hM.oo (fun q a1 a2 => hq q (Or.inr (by omega)) (by omega))
    have ho2 := hc2
    have hd2 := (hq (L + 755) (Or.inr (by omega)) (by omega)).trans hd
    refine wL_law_2151 ?_
    refine wL_law_2153 ?_
    refine wL_law_2154 ?_
    refine wL_law_2155 ?_
    refine wL_law_2157 ?_
    refine wL_law_2158 ?_
    refine wL_law_2159 (j := 6 * c + 1) (nI_add _ 1) (by omega) (by omega) ?_
    refine wL_law_2160 ?_
    refine wL_law_2161 ?_
    refine wL_law_2163 ?_
    refine wL_law_2164 ?_
    refine wL_law_2165 (j := 6 * c + 2) (nI_add _ 2) (by omega) (by omega) ?_
    refine wL_law_2166 (fun c2166 => absurd c2166 hx) (fun c2166 => ?_)
    refine wL_law_2169 ?_
    refine wL_law_2170 ?_
    refine wL_law_2174 ?_
    refine wL_law_2175 ?_
    refine wL_law_2177 ?_
    refine wL_law_2178 ?_
    refine wL_law_2179 (j := 6 * c + 3) (nI_add _ 3) (by omega) (by omega) ?_
    refine wL_law_2180 hM2.c (sX9_releaseCost hR (by omega) hM2 hO (fun h3 M2 b hM3 hq3 e4 hb hR2 => ?_))
    have hL3 := hL2.o hq3 (Or.inl (Nat.le_refl _))
    have ho3 := (hq3 (L + 754) (Or.inr (by omega))).trans ho2
    have hd3 := (hq3 (L + 755) (Or.inr (by omega))).trans hd2
    refine wL_law_2183 ?_
    refine wL_law_2185 ?_
    refine wL_law_2186 hM3.c (mX9_thrown hM3 ?_)
    refine wL_law_2189 ?_
    refine wL_law_2191 (fun c2191 => ?_) (fun c2191 => absurd e4 c2191)
    refine wL_law_2196 ?_
    refine wL_law_2198 (fun c2198 => ?_) (fun c2198 => ?_)
    · refine wL_law_2213 ?_
      exact law_go hk ⟨_, _, _, _, hL3, hM3, ho3, hd3, hR2⟩
    · refine wL_law_2201 ?_
      refine wL_law_2202 ?_
      refine wL_law_2203 ho3 (j := 0) rfl (by decide) (by decide) ?_
      refine wL_law_2204 ?_
      refine wL_law_2206 ?_
      refine wL_law_2207 (fun c2207 => ?_) (fun c2207 => absurd ((hv c2198).trans (hb c2198).symm) c2207)
      refine wL_law_2213 ?_
      exact law_go hk ⟨_, _, _, _, hL3, hM3, ho3, hd3, hR2⟩
theorem law_releaseGain {L c bc bs : Nat} {Kr : q_KR} (hI : LI h L c) (hc : c < 512) (hj : 6 * c + 6 ≤ e_sL V) (hn : e_sL V ≤ 3072) (hk : ∀ h2 z2, LI h2 L (c + 1) → QW V iL_law 2751 (lawls V L (nI (6 * c)) none none none) [] h2 z2 bc bs Kr Kx) : QW V iL_law 2216 (lawls V L (nI (6 * c)) none none none) [] h z (bc + 6) (bs + 36) Kr Kx := by
  obtain ⟨S, M, f, g, hL, hM, ho, hd, hR⟩ := hI
  refine q_budle (bc' := bc + 2) (bs' := bs + 12) (by omega) (by omega) ?_
  by_cases hx : e_xs V (6 * c + 2) = 0
  · refine wL_law_2216 ?_
    refine wL_law_2217 ?_
    refine wL_law_2218 ?_
    refine wL_law_2220 ?_
    refine wL_law_2221 ?_
    refine wL_law_2222 (j := 6 * c + 1) (nI_add _ 1) (by omega) (by omega) ?_
    refine wL_law_2223 ?_
    refine wL_law_2224 ?_
    refine wL_law_2226 ?_
    refine wL_law_2227 ?_
    refine wL_law_2228 (j := 6 * c + 2) (nI_add _ 2) (by omega) (by omega) ?_
    refine wL_law_2229 (fun c2229 => ?_) (fun c2229 => absurd hx c2229)
    refine wL_law_2236 ?_
    refine wL_law_2237 ?_
    refine wL_law_2238 (sL_releaseGain hL hR.1 ho (by omega) (fun k v S' h2 f2 z2 hO hL2 hc2 hv hq => ?_))
    have hM2 : isM h2 (L + 741) M := hM.oo (fun q a1 a2 => hq q (Or.inr (by omega)) (by omega))
    have ho2 := hc2
    have hd2 := (hq (L + 755) (Or.inr (by omega)) (by omega)).trans hd
    refine wL_law_2241 ?_
    refine wL_law_2243 ?_
    refine wL_law_2244 ?_
    refine wL_law_2245 ?_
    refine wL_law_2247 ?_
    refine wL_law_2248 ?_
    refine wL_law_2249 (j := 6 * c + 1) (nI_add _ 1) (by omega) (by omega) ?_
    refine wL_law_2250 ?_
    refine wL_law_2251 ?_
    refine wL_law_2253 ?_
    refine wL_law_2254 ?_
    refine wL_law_2255 (j := 6 * c + 2) (nI_add _ 2) (by omega) (by omega) ?_
    refine wL_law_2256 (fun c2256 => ?_) (fun c2256 => absurd hx c2256)
    refine wL_law_2263 ?_
    refine wL_law_2264 hM2.c (sX9_releaseGain hR (by omega) hM2 hO (fun h3 M2 b hM3 hq3 e4 hb hR2 => ?_))
    have hL3 := hL2.o hq3 (Or.inl (Nat.le_refl _))
    have ho3 := (hq3 (L + 754) (Or.inr (by omega))).trans ho2
    have hd3 := (hq3 (L + 755) (Or.inr (by omega))).trans hd2
    refine wL_law_2267 ?_
    refine wL_law_2269 ?_
    refine wL_law_2270 hM3.c (mX9_thrown hM3 ?_)
    refine wL_law_2273 ?_
    refine wL_law_2275 (fun c2275 => ?_) (fun c2275 => absurd e4 c2275)
    refine wL_law_2280 ?_
    refine wL_law_2282 (fun c2282 => ?_) (fun c2282 => ?_)
    · refine wL_law_2297 ?_
      exact law_go hk ⟨_, _, _, _, hL3, hM3, ho3, hd3, hR2⟩
    · refine wL_law_2285 ?_
      refine wL_law_2286 ?_
      refine wL_law_2287 ho3 (j := 0) rfl (by decide) (by decide) ?_
      refine wL_law_2288 ?_
      refine wL_law_2290 ?_
      refine wL_law_2291 (fun c2291 => ?_) (fun c2291 => absurd ((hv c2282).trans (hb c2282).symm) c2291)
      refine wL_law_2297 ?_
      exact law_go hk ⟨_, _, _, _, hL3, hM3, ho3, hd3, hR2⟩
  · refine wL_law_2216 ?_
    refine wL_law_2217 ?_
    refine wL_law_2218 ?_
    refine wL_law_2220 ?_
    refine wL_law_2221 ?_
    refine wL_law_2222 (j := 6 * c + 1) (nI_add _ 1) (by omega) (by omega) ?_
    refine wL_law_2223 ?_
    refine wL_law_2224 ?_
    refine wL_law_2226 ?_
    refine wL_law_2227 ?_
    refine wL_law_2228 (j := 6 * c + 2) (nI_add _ 2) (by omega) (by omega) ?_
    refine wL_law_2229 (fun c2229 => absurd c2229 hx) (fun c2229 => ?_)
    refine wL_law_2232 ?_
    refine wL_law_2233 ?_
    refine wL_law_2237 ?_
    refine wL_law_2238 (sL_releaseGain hL hR.1 ho (by omega) (fun k v S' h2 f2 z2 hO hL2 hc2 hv hq => ?_))
    have hM2 : isM h2 (L + 741) M := hM.oo (fun q a1 a2 => hq q (Or.inr (by omega)) (by omega))
    have ho2 := hc2
    have hd2 := (hq (L + 755) (Or.inr (by omega)) (by omega)).trans hd
    refine wL_law_2241 ?_
    refine wL_law_2243 ?_
    refine wL_law_2244 ?_
    refine wL_law_2245 ?_
    refine wL_law_2247 ?_
    refine wL_law_2248 ?_
    refine wL_law_2249 (j := 6 * c + 1) (nI_add _ 1) (by omega) (by omega) ?_
    refine wL_law_2250 ?_
    refine wL_law_2251 ?_
    refine wL_law_2253 ?_
    refine wL_law_2254 ?_
    refine wL_law_2255 (j := 6 * c + 2) (nI_add _ 2) (by omega) (by omega) ?_
    refine wL_law_2256 (fun c2256 => absurd c2256 hx) (fun c2256 => ?_)
    refine wL_law_2259 ?_
    refine wL_law_2260 ?_
    refine wL_law_2264 hM2.c (sX9_releaseGain hR (by omega) hM2 hO (fun h3 M2 b hM3 hq3 e4 hb hR2 => ?_))
    have hL3 := hL2.o hq3 (Or.inl (Nat.le_refl _))
    have ho3 := (hq3 (L + 754) (Or.inr (by omega))).trans ho2
    have hd3 := (hq3 (L + 755) (Or.inr (by omega))).trans hd2
    refine wL_law_2267 ?_
    refine wL_law_2269 ?_
    refine wL_law_2270 hM3.c (mX9_thrown hM3 ?_)
    refine wL_law_2273 ?_
    refine wL_law_2275 (fun c2275 => ?_) (fun c2275 => absurd e4 c2275)
    refine wL_law_2280 ?_
    refine wL_law_2282 (fun c2282 => ?_) (fun c2282 => ?_)
    · refine wL_law_2297 ?_
      exact law_go hk ⟨_, _, _, _, hL3, hM3, ho3, hd3, hR2⟩
    · refine wL_law_2285 ?_
      refine wL_law_2286 ?_
      refine wL_law_2287 ho3 (j := 0) rfl (by decide) (by decide) ?_
      refine wL_law_2288 ?_
      refine wL_law_2290 ?_
      refine wL_law_2291 (fun c2291 => ?_) (fun c2291 => absurd ((hv c2282).trans (hb c2282).symm) c2291)
      refine wL_law_2297 ?_
      exact law_go hk ⟨_, _, _, _, hL3, hM3, ho3, hd3, hR2⟩
theorem law_fewestReleases {L c bc bs : Nat} {Kr : q_KR} (hI : LI h L c) (hc : c < 512) (hj : 6 * c + 6 ≤ e_sL V) (hn : e_sL V ≤ 3072) (hk : ∀ h2 z2, LI h2 L (c + 1) → QW V iL_law 2751 (lawls V L (nI (6 * c)) none none none) [] h2 z2 bc bs Kr Kx) : QW V iL_law 2300 (lawls V L (nI (6 * c)) none none none) [] h z (bc + 6) (bs + 36) Kr Kx := by
  obtain ⟨S, M, f, g, hL, hM, ho, hd, hR⟩ := hI
  refine q_budle (bc' := bc + 2) (bs' := bs + 12) (by omega) (by omega) ?_
  refine wL_law_2300 ?_
  refine wL_law_2301 ?_
  refine wL_law_2302 ?_
  refine wL_law_2304 ?_
  refine wL_law_2305 ?_
  refine wL_law_2306 (j := 6 * c + 1) (nI_add _ 1) (by omega) (by omega) ?_
  refine wL_law_2307 ?_
  refine wL_law_2308 (sL_fewestReleases hL hR.1 ho (by omega) (fun k v S' h2 f2 z2 hO hL2 hc2 hv hq => ?_))
  have hM2 : isM h2 (L + 741) M := hM.oo (fun q a1 a2 => hq q (Or.inr (by omega)) (by omega))
  have ho2 := hc2
  have hd2 := (hq (L + 755) (Or.inr (by omega)) (by omega)).trans hd
  refine wL_law_2311 ?_
  refine wL_law_2313 ?_
  refine wL_law_2314 ?_
  refine wL_law_2315 ?_
  refine wL_law_2317 ?_
  refine wL_law_2318 ?_
  refine wL_law_2319 (j := 6 * c + 1) (nI_add _ 1) (by omega) (by omega) ?_
  refine wL_law_2320 hM2.c (sX9_fewestReleases hR (by omega) hM2 hO (fun h3 M2 b hM3 hq3 e4 hb hR2 => ?_))
  have hL3 := hL2.o hq3 (Or.inl (Nat.le_refl _))
  have ho3 := (hq3 (L + 754) (Or.inr (by omega))).trans ho2
  have hd3 := (hq3 (L + 755) (Or.inr (by omega))).trans hd2
  refine wL_law_2323 ?_
  refine wL_law_2325 ?_
  refine wL_law_2326 hM3.c (mX9_thrown hM3 ?_)
  refine wL_law_2329 ?_
  refine wL_law_2331 (fun c2331 => ?_) (fun c2331 => absurd e4 c2331)
  refine wL_law_2336 ?_
  refine wL_law_2338 (fun c2338 => ?_) (fun c2338 => ?_)
  · refine wL_law_2353 ?_
    exact law_go hk ⟨_, _, _, _, hL3, hM3, ho3, hd3, hR2⟩
  · refine wL_law_2341 ?_
    refine wL_law_2342 ?_
    refine wL_law_2343 ho3 (j := 0) rfl (by decide) (by decide) ?_
    refine wL_law_2344 ?_
    refine wL_law_2346 ?_
    refine wL_law_2347 (fun c2347 => ?_) (fun c2347 => absurd ((hv c2338).trans (hb c2338).symm) c2347)
    refine wL_law_2353 ?_
    exact law_go hk ⟨_, _, _, _, hL3, hM3, ho3, hd3, hR2⟩
theorem law_releaseSet {L c bc bs : Nat} {Kr : q_KR} (hI : LI h L c) (hc : c < 512) (hj : 6 * c + 6 ≤ e_sL V) (hn : e_sL V ≤ 3072) (hk : ∀ h2 z2, LI h2 L (c + 1) → QW V iL_law 2751 (lawls V L (nI (6 * c)) none none none) [] h2 z2 bc bs Kr Kx) : QW V iL_law 2356 (lawls V L (nI (6 * c)) none none none) [] h z (bc + 6) (bs + 36) Kr Kx := by
  obtain ⟨S, M, f, g, hL, hM, ho, hd, hR⟩ := hI
  refine q_budle (bc' := bc + 2) (bs' := bs + 12) (by omega) (by omega) ?_
  refine wL_law_2356 ?_
  refine wL_law_2357 ?_
  refine wL_law_2358 ?_
  refine wL_law_2360 ?_
  refine wL_law_2361 ?_
  refine wL_law_2362 (j := 6 * c + 1) (nI_add _ 1) (by omega) (by omega) ?_
  refine wL_law_2363 ?_
  refine wL_law_2364 (sL_releaseSet hL hR.1 ho (by omega) (fun k v S' h2 f2 z2 hO hL2 hc2 hv hq => ?_))
  have hM2 : isM h2 (L + 741) M := hM.oo (fun q a1 a2 => hq q (Or.inr (by omega)) (by omega))
  have ho2 := hc2
  have hd2 := (hq (L + 755) (Or.inr (by omega)) (by omega)).trans hd
  refine wL_law_2367 ?_
  refine wL_law_2369 ?_
  refine wL_law_2370 ?_
  refine wL_law_2371 ?_
  refine wL_law_2373 ?_
  refine wL_law_2374 ?_
  refine wL_law_2375 (j := 6 * c + 1) (nI_add _ 1) (by omega) (by omega) ?_
  refine wL_law_2376 hM2.c (sX9_releaseSet hR (by omega) hM2 hO (fun h3 M2 b hM3 hq3 e4 hb hR2 => ?_))
  have hL3 := hL2.o hq3 (Or.inl (Nat.le_refl _))
  have ho3 := (hq3 (L + 754) (Or.inr (by omega))).trans ho2
  have hd3 := (hq3 (L + 755) (Or.inr (by omega))).trans hd2
  refine wL_law_2379 ?_
  refine wL_law_2381 ?_
  refine wL_law_2382 hM3.c (mX9_thrown hM3 ?_)
  refine wL_law_2385 ?_
  refine wL_law_2387 (fun c2387 => ?_) (fun c2387 => absurd e4 c2387)
  refine wL_law_2392 ?_
  refine wL_law_2394 (fun c2394 => ?_) (fun c2394 => ?_)
  · refine wL_law_2409 ?_
    exact law_go hk ⟨_, _, _, _, hL3, hM3, ho3, hd3, hR2⟩
  · refine wL_law_2397 ?_
    refine wL_law_2398 ?_
    refine wL_law_2399 ho3 (j := 0) rfl (by decide) (by decide) ?_
    refine wL_law_2400 ?_
    refine wL_law_2402 ?_
    refine wL_law_2403 (fun c2403 => ?_) (fun c2403 => absurd ((hv c2394).trans (hb c2394).symm) c2403)
    refine wL_law_2409 ?_
    exact law_go hk ⟨_, _, _, _, hL3, hM3, ho3, hd3, hR2⟩
theorem law_tradeCode {L c bc bs : Nat} {Kr : q_KR} (hI : LI h L c) (hc : c < 512) (hj : 6 * c + 6 ≤ e_sL V) (hn : e_sL V ≤ 3072) (hk : ∀ h2 z2, LI h2 L (c + 1) → QW V iL_law 2751 (lawls V L (nI (6 * c)) none none none) [] h2 z2 bc bs Kr Kx) : QW V iL_law 2412 (lawls V L (nI (6 * c)) none none none) [] h z (bc + 6) (bs + 36) Kr Kx := by
  obtain ⟨S, M, f, g, hL, hM, ho, hd, hR⟩ := hI
  refine q_budle (bc' := bc + 6) (bs' := bs + 36) (by omega) (by omega) ?_
  refine wL_law_2412 ?_
  refine wL_law_2413 ?_
  refine wL_law_2414 ?_
  refine wL_law_2416 ?_
  refine wL_law_2417 ?_
  refine wL_law_2418 (j := 6 * c + 1) (nI_add _ 1) (by omega) (by omega) ?_
  refine wL_law_2419 ?_
  refine wL_law_2420 ?_
  refine wL_law_2422 ?_
  refine wL_law_2423 ?_
  refine wL_law_2424 (j := 6 * c + 2) (nI_add _ 2) (by omega) (by omega) ?_
  refine wL_law_2425 ?_
  refine wL_law_2426 ?_
  refine wL_law_2428 ?_
  refine wL_law_2429 ?_
  refine wL_law_2430 (j := 6 * c + 3) (nI_add _ 3) (by omega) (by omega) ?_
  refine wL_law_2431 ?_
  refine wL_law_2432 ?_
  refine wL_law_2434 ?_
  refine wL_law_2435 ?_
  refine wL_law_2436 (j := 6 * c + 4) (nI_add _ 4) (by omega) (by omega) ?_
  refine wL_law_2437 ?_
  refine wL_law_2438 (sL_tradeCode hL hR.1 ho (by omega) (fun k v S' h2 f2 z2 hO hL2 hc2 hv hq => ?_))
  have hM2 : isM h2 (L + 741) M := hM.oo (fun q a1 a2 => hq q (Or.inr (by omega)) (by omega))
  have ho2 := hc2
  have hd2 := (hq (L + 755) (Or.inr (by omega)) (by omega)).trans hd
  refine wL_law_2441 ?_
  refine wL_law_2443 ?_
  refine wL_law_2444 ?_
  refine wL_law_2445 ?_
  refine wL_law_2447 ?_
  refine wL_law_2448 ?_
  refine wL_law_2449 (j := 6 * c + 1) (nI_add _ 1) (by omega) (by omega) ?_
  refine wL_law_2450 ?_
  refine wL_law_2451 ?_
  refine wL_law_2453 ?_
  refine wL_law_2454 ?_
  refine wL_law_2455 (j := 6 * c + 2) (nI_add _ 2) (by omega) (by omega) ?_
  refine wL_law_2456 ?_
  refine wL_law_2457 ?_
  refine wL_law_2459 ?_
  refine wL_law_2460 ?_
  refine wL_law_2461 (j := 6 * c + 3) (nI_add _ 3) (by omega) (by omega) ?_
  refine wL_law_2462 ?_
  refine wL_law_2463 ?_
  refine wL_law_2465 ?_
  refine wL_law_2466 ?_
  refine wL_law_2467 (j := 6 * c + 4) (nI_add _ 4) (by omega) (by omega) ?_
  refine wL_law_2468 hM2.c (sX9_tradeCode hR (by omega) hM2 hO (fun h3 M2 b hM3 hq3 e4 hb hR2 => ?_))
  have hL3 := hL2.o hq3 (Or.inl (Nat.le_refl _))
  have ho3 := (hq3 (L + 754) (Or.inr (by omega))).trans ho2
  have hd3 := (hq3 (L + 755) (Or.inr (by omega))).trans hd2
  refine wL_law_2471 ?_
  refine wL_law_2473 ?_
  refine wL_law_2474 hM3.c (mX9_thrown hM3 ?_)
  refine wL_law_2477 ?_
  refine wL_law_2479 (fun c2479 => ?_) (fun c2479 => absurd e4 c2479)
  refine wL_law_2484 ?_
  refine wL_law_2486 (fun c2486 => ?_) (fun c2486 => ?_)
  · refine wL_law_2501 ?_
    exact law_go hk ⟨_, _, _, _, hL3, hM3, ho3, hd3, hR2⟩
  · refine wL_law_2489 ?_
    refine wL_law_2490 ?_
    refine wL_law_2491 ho3 (j := 0) rfl (by decide) (by decide) ?_
    refine wL_law_2492 ?_
    refine wL_law_2494 ?_
    refine wL_law_2495 (fun c2495 => ?_) (fun c2495 => absurd ((hv c2486).trans (hb c2486).symm) c2495)
    refine wL_law_2501 ?_
    exact law_go hk ⟨_, _, _, _, hL3, hM3, ho3, hd3, hR2⟩
theorem law_swapCount {L c bc bs : Nat} {Kr : q_KR} (hI : LI h L c) (hc : c < 512) (hj : 6 * c + 6 ≤ e_sL V) (hn : e_sL V ≤ 3072) (hk : ∀ h2 z2, LI h2 L (c + 1) → QW V iL_law 2751 (lawls V L (nI (6 * c)) none none none) [] h2 z2 bc bs Kr Kx) : QW V iL_law 2504 (lawls V L (nI (6 * c)) none none none) [] h z (bc + 6) (bs + 36) Kr Kx := by
  obtain ⟨S, M, f, g, hL, hM, ho, hd, hR⟩ := hI
  refine q_budle (bc' := bc + 4) (bs' := bs + 24) (by omega) (by omega) ?_
  refine wL_law_2504 ?_
  refine wL_law_2505 ?_
  refine wL_law_2506 ?_
  refine wL_law_2508 ?_
  refine wL_law_2509 ?_
  refine wL_law_2510 (j := 6 * c + 1) (nI_add _ 1) (by omega) (by omega) ?_
  refine wL_law_2511 ?_
  refine wL_law_2512 ?_
  refine wL_law_2514 ?_
  refine wL_law_2515 ?_
  refine wL_law_2516 (j := 6 * c + 2) (nI_add _ 2) (by omega) (by omega) ?_
  refine wL_law_2517 ?_
  refine wL_law_2518 (sL_swapCount hL hR.1 ho (by omega) (fun k v S' h2 f2 z2 hO hL2 hc2 hv hq => ?_))
  have hM2 : isM h2 (L + 741) M := hM.oo (fun q a1 a2 => hq q (Or.inr (by omega)) (by omega))
  have ho2 := hc2
  have hd2 := (hq (L + 755) (Or.inr (by omega)) (by omega)).trans hd
  refine wL_law_2521 ?_
  refine wL_law_2523 ?_
  refine wL_law_2524 ?_
  refine wL_law_2525 ?_
  refine wL_law_2527 ?_
  refine wL_law_2528 ?_
  refine wL_law_2529 (j := 6 * c + 1) (nI_add _ 1) (by omega) (by omega) ?_
  refine wL_law_2530 ?_
  refine wL_law_2531 ?_
  refine wL_law_2533 ?_
  refine wL_law_2534 ?_
  refine wL_law_2535 (j := 6 * c + 2) (nI_add _ 2) (by omega) (by omega) ?_
  refine wL_law_2536 hM2.c (sX9_swapCount hR (by omega) hM2 hO (fun h3 M2 b hM3 hq3 e4 hb hR2 => ?_))
  have hL3 := hL2.o hq3 (Or.inl (Nat.le_refl _))
  have ho3 := (hq3 (L + 754) (Or.inr (by omega))).trans ho2
  have hd3 := (hq3 (L + 755) (Or.inr (by omega))).trans hd2
  refine wL_law_2539 ?_
  refine wL_law_2541 ?_
  refine wL_law_2542 hM3.c (mX9_thrown hM3 ?_)
  refine wL_law_2545 ?_
  refine wL_law_2547 (fun c2547 => ?_) (fun c2547 => absurd e4 c2547)
  refine wL_law_2552 ?_
  refine wL_law_2554 (fun c2554 => ?_) (fun c2554 => ?_)
  · refine wL_law_2569 ?_
    exact law_go hk ⟨_, _, _, _, hL3, hM3, ho3, hd3, hR2⟩
  · refine wL_law_2557 ?_
    refine wL_law_2558 ?_
    refine wL_law_2559 ho3 (j := 0) rfl (by decide) (by decide) ?_
    refine wL_law_2560 ?_
    refine wL_law_2562 ?_
    refine wL_law_2563 (fun c2563 => ?_) (fun c2563 => absurd ((hv c2554).trans (hb c2554).symm) c2563)
    refine wL_law_2569 ?_
    exact law_go hk ⟨_, _, _, _, hL3, hM3, ho3, hd3, hR2⟩
theorem law_bestSwap {L c bc bs : Nat} {Kr : q_KR} (hI : LI h L c) (hc : c < 512) (hj : 6 * c + 6 ≤ e_sL V) (hn : e_sL V ≤ 3072) (hk : ∀ h2 z2, LI h2 L (c + 1) → QW V iL_law 2751 (lawls V L (nI (6 * c)) none none none) [] h2 z2 bc bs Kr Kx) : QW V iL_law 2572 (lawls V L (nI (6 * c)) none none none) [] h z (bc + 6) (bs + 36) Kr Kx := by
  obtain ⟨S, M, f, g, hL, hM, ho, hd, hR⟩ := hI
  refine q_budle (bc' := bc + 4) (bs' := bs + 24) (by omega) (by omega) ?_
  refine wL_law_2572 ?_
  refine wL_law_2573 ?_
  refine wL_law_2574 ?_
  refine wL_law_2576 ?_
  refine wL_law_2577 ?_
  refine wL_law_2578 (j := 6 * c + 1) (nI_add _ 1) (by omega) (by omega) ?_
  refine wL_law_2579 ?_
  refine wL_law_2580 ?_
  refine wL_law_2582 ?_
  refine wL_law_2583 ?_
  refine wL_law_2584 (j := 6 * c + 2) (nI_add _ 2) (by omega) (by omega) ?_
  refine wL_law_2585 ?_
  refine wL_law_2586 (sL_bestSwap hL hR.1 ho (by omega) (fun k v S' h2 f2 z2 hO hL2 hc2 hv hq => ?_))
  have hM2 : isM h2 (L + 741) M := hM.oo (fun q a1 a2 => hq q (Or.inr (by omega)) (by omega))
  have ho2 := hc2
  have hd2 := (hq (L + 755) (Or.inr (by omega)) (by omega)).trans hd
  refine wL_law_2589 ?_
  refine wL_law_2591 ?_
  refine wL_law_2592 ?_
  refine wL_law_2593 ?_
  refine wL_law_2595 ?_
  refine wL_law_2596 ?_
  refine wL_law_2597 (j := 6 * c + 1) (nI_add _ 1) (by omega) (by omega) ?_
  refine wL_law_2598 ?_
  refine wL_law_2599 ?_
  refine wL_law_2601 ?_
  refine wL_law_2602 ?_
  refine wL_law_2603 (j := 6 * c + 2) (nI_add _ 2) (by omega) (by omega) ?_
  refine wL_law_2604 hM2.c (sX9_bestSwap hR (by omega) hM2 hO (fun h3 M2 b hM3 hq3 e4 hb hR2 => ?_))
  have hL3 := hL2.o hq3 (Or.inl (Nat.le_refl _))
  have ho3 := (hq3 (L + 754) (Or.inr (by omega))).trans ho2
  have hd3 := (hq3 (L + 755) (Or.inr (by omega))).trans hd2
  refine wL_law_2607 ?_
  refine wL_law_2609 ?_
  refine wL_law_2610 hM3.c (mX9_thrown hM3 ?_)
  refine wL_law_2613 ?_
  refine wL_law_2615 (fun c2615 => ?_) (fun c2615 => absurd e4 c2615)
  refine wL_law_2620 ?_
  refine wL_law_2622 (fun c2622 => ?_) (fun c2622 => ?_)
  · refine wL_law_2637 ?_
    exact law_go hk ⟨_, _, _, _, hL3, hM3, ho3, hd3, hR2⟩
  · refine wL_law_2625 ?_
    refine wL_law_2626 ?_
    refine wL_law_2627 ho3 (j := 0) rfl (by decide) (by decide) ?_
    refine wL_law_2628 ?_
    refine wL_law_2630 ?_
    refine wL_law_2631 (fun c2631 => ?_) (fun c2631 => absurd ((hv c2622).trans (hb c2622).symm) c2631)
    refine wL_law_2637 ?_
    exact law_go hk ⟨_, _, _, _, hL3, hM3, ho3, hd3, hR2⟩
theorem law_taxAhead {L c bc bs : Nat} {Kr : q_KR} (hI : LI h L c) (hc : c < 512) (hj : 6 * c + 6 ≤ e_sL V) (hn : e_sL V ≤ 3072) (hk : ∀ h2 z2, LI h2 L (c + 1) → QW V iL_law 2751 (lawls V L (nI (6 * c)) none none none) [] h2 z2 bc bs Kr Kx) : QW V iL_law 2640 (lawls V L (nI (6 * c)) none none none) [] h z (bc + 6) (bs + 36) Kr Kx := by
  obtain ⟨S, M, f, g, hL, hM, ho, hd, hR⟩ := hI
  refine q_budle (bc' := bc + 3) (bs' := bs + 18) (by omega) (by omega) ?_
  refine wL_law_2640 ?_
  refine wL_law_2641 ?_
  refine wL_law_2642 ?_
  refine wL_law_2644 ?_
  refine wL_law_2645 ?_
  refine wL_law_2646 (j := 6 * c + 1) (nI_add _ 1) (by omega) (by omega) ?_
  refine wL_law_2647 ?_
  refine wL_law_2648 ?_
  refine wL_law_2650 ?_
  refine wL_law_2651 ?_
  refine wL_law_2652 (j := 6 * c + 2) (nI_add _ 2) (by omega) (by omega) ?_
  refine wL_law_2653 ?_
  refine wL_law_2654 (sL_taxAhead hL hR.1 ho (by omega) (fun k v S' h2 f2 z2 hO hL2 hc2 hv hq => ?_))
  have hM2 : isM h2 (L + 741) M := hM.oo (fun q a1 a2 => hq q (Or.inr (by omega)) (by omega))
  have ho2 := hc2
  have hd2 := (hq (L + 755) (Or.inr (by omega)) (by omega)).trans hd
  refine wL_law_2657 ?_
  refine wL_law_2659 ?_
  refine wL_law_2660 ?_
  refine wL_law_2661 ?_
  refine wL_law_2663 ?_
  refine wL_law_2664 ?_
  refine wL_law_2665 (j := 6 * c + 1) (nI_add _ 1) (by omega) (by omega) ?_
  refine wL_law_2666 ?_
  refine wL_law_2667 ?_
  refine wL_law_2669 ?_
  refine wL_law_2670 ?_
  refine wL_law_2671 (j := 6 * c + 2) (nI_add _ 2) (by omega) (by omega) ?_
  refine wL_law_2672 hM2.c (sX9_taxAhead hR (by omega) hM2 hO (fun h3 M2 b hM3 hq3 e4 hb hR2 => ?_))
  have hL3 := hL2.o hq3 (Or.inl (Nat.le_refl _))
  have ho3 := (hq3 (L + 754) (Or.inr (by omega))).trans ho2
  have hd3 := (hq3 (L + 755) (Or.inr (by omega))).trans hd2
  refine wL_law_2675 ?_
  refine wL_law_2677 ?_
  refine wL_law_2678 hM3.c (mX9_thrown hM3 ?_)
  refine wL_law_2681 ?_
  refine wL_law_2683 (fun c2683 => ?_) (fun c2683 => absurd e4 c2683)
  refine wL_law_2688 ?_
  refine wL_law_2690 (fun c2690 => ?_) (fun c2690 => ?_)
  · refine wL_law_2704 ?_
    exact law_go hk ⟨_, _, _, _, hL3, hM3, ho3, hd3, hR2⟩
  · refine wL_law_2693 ?_
    refine wL_law_2694 ?_
    refine wL_law_2695 ho3 (j := 0) rfl (by decide) (by decide) ?_
    refine wL_law_2696 ?_
    refine wL_law_2698 (fun c2698 => ?_) (fun c2698 => absurd ((hv c2690).trans (hb c2690).symm) c2698)
    refine wL_law_2704 ?_
    exact law_go hk ⟨_, _, _, _, hL3, hM3, ho3, hd3, hR2⟩
theorem law_undo {L c bc bs : Nat} {Kr : q_KR} (hI : LI h L c) (hc : c < 512) (hj : 6 * c + 6 ≤ e_sL V) (hn : e_sL V ≤ 3072) (hk : ∀ h2 z2, LI h2 L (c + 1) → QW V iL_law 2751 (lawls V L (nI (6 * c)) none none none) [] h2 z2 bc bs Kr Kx) : QW V iL_law 2707 (lawls V L (nI (6 * c)) none none none) [] h z (bc + 6) (bs + 36) Kr Kx := by
  obtain ⟨S, M, f, g, hL, hM, ho, hd, hR⟩ := hI
  refine q_budle (bc' := bc + 1) (bs' := bs + 6) (by omega) (by omega) ?_
  refine wL_law_2707 ?_
  refine wL_law_2708 ?_
  refine wL_law_2709 (sL_undo hL hR.1 ho (by omega) (fun k v S' h2 f2 z2 hO hL2 hc2 hv hq => ?_))
  have hM2 : isM h2 (L + 741) M := hM.oo (fun q a1 a2 => hq q (Or.inr (by omega)) (by omega))
  have ho2 := hc2
  have hd2 := (hq (L + 755) (Or.inr (by omega)) (by omega)).trans hd
  refine wL_law_2712 ?_
  refine wL_law_2714 ?_
  refine wL_law_2715 hM2.c (sX9_undo hR (by omega) hM2 hO (fun h3 M2 b hM3 hq3 e4 hb hR2 => ?_))
  have hL3 := hL2.o hq3 (Or.inl (Nat.le_refl _))
  have ho3 := (hq3 (L + 754) (Or.inr (by omega))).trans ho2
  have hd3 := (hq3 (L + 755) (Or.inr (by omega))).trans hd2
  refine wL_law_2718 ?_
  refine wL_law_2720 ?_
  refine wL_law_2721 hM3.c (mX9_thrown hM3 ?_)
  refine wL_law_2724 ?_
  refine wL_law_2726 (fun c2726 => ?_) (fun c2726 => absurd e4 c2726)
  refine wL_law_2731 ?_
  refine wL_law_2733 (fun c2733 => ?_) (fun c2733 => ?_)
  · refine wL_law_2748 ?_
    exact law_go hk ⟨_, _, _, _, hL3, hM3, ho3, hd3, hR2⟩
  · refine wL_law_2736 ?_
    refine wL_law_2737 ?_
    refine wL_law_2738 ho3 (j := 0) rfl (by decide) (by decide) ?_
    refine wL_law_2739 ?_
    refine wL_law_2741 ?_
    refine wL_law_2742 (fun c2742 => ?_) (fun c2742 => absurd ((hv c2733).trans (hb c2733).symm) c2742)
    refine wL_law_2748 ?_
    exact law_go hk ⟨_, _, _, _, hL3, hM3, ho3, hd3, hR2⟩
end RELQ

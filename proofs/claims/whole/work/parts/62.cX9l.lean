/-! SalaryCapLedgerModel: taking a text over, the buffer, the constructor -/
section CX9l
variable {V : q_En} {h : q_H} {z : Option Nat} {Kx : q_KX}
abbrev m34 (M : q_Mo) (f g : Nat → Int32) : q_Mo := (M.1, M.2.1, fun q => if q = 3 then f else if q = 4 then g else M.2.2 q)
theorem m34_i {M : q_Mo} : m34 M (M.2.2 3) (M.2.2 4) = M := congrArg (fun q => (M.1, M.2.1, q)) (funext fun q => by
  by_cases e : q = 3
  · simp [e]
  · by_cases e1 : q = 4 <;> simp [e, e1])
theorem m34_3 {M : q_Mo} {f g x : Nat → Int32} : mIr (m34 M f g) 3 x = m34 M x g := congrArg (fun q => (M.1, M.2.1, q)) (funext fun q => by by_cases e : q = 3 <;> simp [e])
theorem m34_4 {M : q_Mo} {f g x : Nat → Int32} : mIr (m34 M f g) 4 x = m34 M f x := congrArg (fun q => (M.1, M.2.1, q)) (funext fun q => by
  by_cases e : q = 4
  · simp [e]
  · by_cases e1 : q = 3 <;> simp [e, e1])
/-- the row of a league just read -/
def tk_at (D : Nat → Int32) (mid : Int32) (i : Nat) : Int64 :=
  if i < 6 then (if i = 1 ∨ i = 3 then 1 else 0) else if i < 246 then
    (if (i - 6) % 10 = 0 ∨ (i - 6) % 10 = 1 then (D (9 * ((i - 6) / 10))).toInt64 else if 3 ≤ (i - 6) % 10 ∧ (i - 6) % 10 < 8 then (D (9 * ((i - 6) / 10) + ((i - 6) % 10 - 2))).toInt64 else if (i - 6) % 10 = 9 then 1 else 0)
  else if (i - 246) % 35 = 0 then mid.toInt64 else 0
theorem tk_pl {D : Nat → Int32} {mid : Int32} {p w : Nat} (hp : p < 24) (hw : w < 10) : tk_at D mid (6 + 10 * p + w) = (if w = 0 ∨ w = 1 then (D (9 * p)).toInt64 else if 3 ≤ w ∧ w < 8 then (D (9 * p + (w - 2))).toInt64 else if w = 9 then 1 else 0) := by
  unfold tk_at
  rw [if_neg (by omega), if_pos (by omega), show (6 + 10 * p + w - 6) % 10 = w by omega, show (6 + 10 * p + w - 6) / 10 = p by omega]
theorem tk_tm {D : Nat → Int32} {mid : Int32} {t w : Nat} (hw : w < 35) : tk_at D mid (246 + 35 * t + w) = if w = 0 then mid.toInt64 else 0 := by
  unfold tk_at
  rw [if_neg (by omega), if_neg (by omega), show (246 + 35 * t + w - 246) % 35 = w by omega]
theorem tk_st {r T : Nat → Int64} {j : Nat} {v : Int64} (h : ∀ i, i < 386 → r i = if i < j ∨ 246 ≤ i then T i else 0) (hv : v = T j) (hj : j < 246) : ∀ i, i < 386 → vp_updL r j v i = if i < j + 1 ∨ 246 ≤ i then T i else 0 := fun i hi => by
  unfold vp_updL
  by_cases e : i = j
  · subst e; rw [if_pos rfl, if_pos (by omega), hv]
  · rw [if_neg e, h i hi]
    by_cases e1 : i < j ∨ 246 ≤ i
    · rw [if_pos e1, if_pos (by omega)]
    · rw [if_neg e1, if_neg (by omega)]
theorem tk_sk {r T : Nat → Int64} {j : Nat} (h : ∀ i, i < 386 → r i = if i < j ∨ 246 ≤ i then T i else 0) (hv : T j = 0) (hj : j < 246) : ∀ i, i < 386 → r i = if i < j + 1 ∨ 246 ≤ i then T i else 0 := fun i hi => by
  rw [h i hi]
  by_cases e : i = j
  · subst e; rw [if_neg (by omega), if_pos (by omega), hv]
  · by_cases e1 : i < j ∨ 246 ≤ i
    · rw [if_pos e1, if_pos (by omega)]
    · rw [if_neg e1, if_neg (by omega)]
/-- the scalars of a league just read -/
def tk_S (M : q_Mo) : q_Mo := mS (mS (mS (mS (mS (mS (mS (mS (mS (mS M 3 1) 2 0) 8 (M.2.2 6 0)) 9 (M.2.2 6 1)) 10 (M.2.2 6 2)) 11 (M.2.2 6 3)) 12 (M.2.2 6 4)) 5 (M.2.2 6 5)) 6 (M.2.2 6 6)) 7 (M.1 26)
theorem tk_S_2 {M : q_Mo} : (tk_S M).2 = M.2 := rfl
theorem tk_S_o {M : q_Mo} {k : Nat} (h : ¬ (k = 2 ∨ k = 3 ∨ (5 ≤ k ∧ k ≤ 12))) : (tk_S M).1 k = M.1 k := by
  show upd (upd (upd (upd (upd (upd (upd (upd (upd (upd M.1 3 1) 2 0) 8 (M.2.2 6 0)) 9 (M.2.2 6 1)) 10 (M.2.2 6 2)) 11 (M.2.2 6 3)) 12 (M.2.2 6 4)) 5 (M.2.2 6 5)) 6 (M.2.2 6 6)) 7 (M.1 26) k = M.1 k
  rw [upd_n (by omega), upd_n (by omega), upd_n (by omega), upd_n (by omega), upd_n (by omega), upd_n (by omega), upd_n (by omega), upd_n (by omega), upd_n (by omega), upd_n (by omega)]
theorem mX9_takeOver {a : Nat} {M : q_Mo} {nb : Nat} {P : q_H → Option Nat → Prop} (hM : isM h a M) (hnb : nb ≤ 4) (hnb2 : M.1 26 = nI nb) (hk : ∀ h2 f3 f4 r, (∀ c, c < nb → f3 c = M.2.2 7 (2 * c) ∧ f4 c = M.2.2 7 (2 * c + 1)) → (∀ i, i < 386 → r i = tk_at (M.2.2 8) (M.2.2 6 3) i) → isM h2 a (mLr (m34 (tk_S M) f3 f4) 1 r) → q_out a 13 h h2 → P h2 z) : QMv V iX9_takeOver [.ref a] h z P Kx := by
  have ho : q_out a 13 h h := q_out.refl
  have hj206 : ∀ hh f3 f4 r, (∀ c, c < nb → f3 c = M.2.2 7 (2 * c) ∧ f4 c = M.2.2 7 (2 * c + 1)) → (∀ i, i < 386 → r i = if i < 6 ∨ 246 ≤ i then tk_at (M.2.2 8) (M.2.2 6 3) i else 0) → isM hh a (mLr (m34 (tk_S M) f3 f4) 1 r) → q_out a 13 h hh → QW V iX9_takeOver 206 [some (.ref a), some (.int (nI 0)), none, none] [] hh z 0 0 (q_Kv P) Kx := by
    intro hh f3 f4 r hb hr hM ho
    refine q_for (P := fun p => ∀ hh r, (∀ i, i < 386 → r i = if i < 6 + 10 * p ∨ 246 ≤ i then tk_at (M.2.2 8) (M.2.2 6 3) i else 0) → isM hh a (mLr (m34 (tk_S M) f3 f4) 1 r) → q_out a 13 h hh → QW V iX9_takeOver 206 [some (.ref a), some (.int (nI p)), none, none] [] hh z 0 0 (q_Kv P) Kx) 24 ?_ ?_ hh r hr hM ho
    · intro hh r hr hM ho
      refine wX9_takeOver_206 ?_
      refine wX9_takeOver_207 ?_
      refine wX9_takeOver_209 (fun c209 => ?_) (fun c209 => absurd (by decide) c209)
      refine wX9_takeOver_308  ?_
      exact hk _ f3 f4 r hb (fun i hi => by rw [hr i hi, if_pos (by omega)]) hM ho
    · intro p hkn ih hh r hr hM ho
      have e6 : (6 : Int32) + 10 * nI p = nI (6 + 10 * p) := by rw [show (6 : Int32) = nI 6 from rfl, show (10 : Int32) = nI 10 from rfl, nI_mul, nI_add]
      refine wX9_takeOver_206 ?_
      refine wX9_takeOver_207 ?_
      refine wX9_takeOver_209 (fun c209 => absurd c209 (nI_ge (b := 24) hkn (by decide))) (fun c209 => ?_)
      refine wX9_takeOver_212 ?_
      refine wX9_takeOver_214 ?_
      refine wX9_takeOver_216 ?_
      refine wX9_takeOver_217 ?_
      refine wX9_takeOver_218 ?_
      rw [e6]
      refine wX9_takeOver_219 ?_
      refine wX9_takeOver_220 ?_
      refine wX9_takeOver_221 hM.c ?_
      refine wX9_takeOver_224 ?_
      refine wX9_takeOver_225 ?_
      refine wX9_takeOver_226 ?_
      refine wX9_takeOver_227 ?_
      refine wX9_takeOver_228 hM.c ?_
      refine wX9_takeOver_231 ?_
      refine wX9_takeOver_233 ?_
      refine wX9_takeOver_234 ?_
      refine wX9_takeOver_235 hM.a8 (show (9 : Int32) * nI p = nI (9 * p) from nI_mul 9 p) (show 9 * p < 216 by omega) (by decide) ?_
      refine wX9_takeOver_236 ?_
      refine wX9_takeOver_237 hM.a1 (show nI (6 + 10 * p) + (0 : Int32) = nI (6 + 10 * p + 0) from nI_add _ 0) (show 6 + 10 * p + 0 < 386 by omega) (by decide) ?_
      refine q_nL (k := 1) (by decide) hM ho (fun h2 hM ho => ?_)
      have hM := hM.e mLr_2
      refine wX9_takeOver_238 ?_
      refine wX9_takeOver_239 hM.c ?_
      refine wX9_takeOver_242 ?_
      refine wX9_takeOver_243 ?_
      refine wX9_takeOver_244 ?_
      refine wX9_takeOver_245 ?_
      refine wX9_takeOver_246 hM.c ?_
      refine wX9_takeOver_249 ?_
      refine wX9_takeOver_251 ?_
      refine wX9_takeOver_252 ?_
      refine wX9_takeOver_253 hM.a8 (show (9 : Int32) * nI p = nI (9 * p) from nI_mul 9 p) (show 9 * p < 216 by omega) (by decide) ?_
      refine wX9_takeOver_254 ?_
      refine wX9_takeOver_255 hM.a1 (show nI (6 + 10 * p) + (1 : Int32) = nI (6 + 10 * p + 1) from nI_add _ 1) (show 6 + 10 * p + 1 < 386 by omega) (by decide) ?_
      refine q_nL (k := 1) (by decide) hM ho (fun h2 hM ho => ?_)
      have hM := hM.e mLr_2
      refine wX9_takeOver_256 ?_
      refine wX9_takeOver_257 ?_
      have hr1 := tk_st (r := r) hr (v := (M.2.2 8 (9 * p)).toInt64) (by rw [show 6 + 10 * p = 6 + 10 * p + 0 from rfl, tk_pl hkn (by decide), if_pos (Or.inl rfl)]) (by omega)
      have hr2 := tk_st hr1 (v := (M.2.2 8 (9 * p)).toInt64) (by rw [tk_pl hkn (by decide), if_pos (Or.inr rfl)]) (by omega)
      have hr3 := tk_sk hr2 (by rw [show 6 + 10 * p + 1 + 1 = 6 + 10 * p + 2 by omega, tk_pl hkn (by decide)]; rfl) (by omega)
      refine q_for (P := fun m => ∀ hh r, (∀ i, i < 386 → r i = if i < 6 + 10 * p + 3 + m ∨ 246 ≤ i then tk_at (M.2.2 8) (M.2.2 6 3) i else 0) → isM hh a (mLr (m34 (tk_S M) f3 f4) 1 r) → q_out a 13 h hh → QW V iX9_takeOver 258 [some (.ref a), some (.int (nI p)), some (.int (nI (6 + 10 * p))), some (.int (nI (1 + m)))] [] hh z 0 0 (q_Kv P) Kx) 5 ?_ ?_ _ _ (fun i hi => (hr3 i hi).trans (by rw [show 6 + 10 * p + 1 + 1 + 1 = 6 + 10 * p + 3 + 0 by omega])) hM ho
      · intro hh r hr hM ho
        refine wX9_takeOver_258 ?_
        refine wX9_takeOver_259 ?_
        refine wX9_takeOver_261 (fun c261 => ?_) (fun c261 => absurd (by decide) c261)
        refine wX9_takeOver_292 ?_
        refine wX9_takeOver_293 hM.c ?_
        refine wX9_takeOver_296 ?_
        refine wX9_takeOver_297 ?_
        refine wX9_takeOver_299 ?_
        refine wX9_takeOver_300 ?_
        refine wX9_takeOver_301 hM.a1 (show nI (6 + 10 * p) + (9 : Int32) = nI (6 + 10 * p + 9) from nI_add _ 9) (show 6 + 10 * p + 9 < 386 by omega) (by decide) ?_
        refine q_nL (k := 1) (by decide) hM ho (fun h2 hM ho => ?_)
        have hM := hM.e mLr_2
        refine wX9_takeOver_302 ?_
        refine wX9_takeOver_305 ?_
        have hr1 := tk_sk hr (by rw [show 6 + 10 * p + 3 + 5 = 6 + 10 * p + 8 by omega, tk_pl hkn (by decide)]; rfl) (by omega)
        have hr2 := tk_st hr1 (v := 1) (by rw [show 6 + 10 * p + 3 + 5 + 1 = 6 + 10 * p + 9 by omega, tk_pl hkn (by decide)]; rfl) (by omega)
        refine q_drp 2 (q_drp 3 (q_ls ?_ (ih _ _ (fun i hi => ?_) hM ho)))
        · rw [nI_1]; rfl
        · show vp_updL r (6 + 10 * p + 9) 1 i = _
          rw [show 6 + 10 * p + 9 = 6 + 10 * p + 3 + 5 + 1 by omega, hr2 i hi, show 6 + 10 * p + 3 + 5 + 1 + 1 = 6 + 10 * (p + 1) by omega]
      · intro m hm5 ih2 hh r hr hM ho
        refine wX9_takeOver_258 ?_
        refine wX9_takeOver_259 ?_
        refine wX9_takeOver_261 (fun c261 => absurd c261 (fun z => nI_ge (show 1 + m < 6 by omega) (by decide) z)) (fun c261 => ?_)
        refine wX9_takeOver_264 ?_
        refine wX9_takeOver_265 hM.c ?_
        refine wX9_takeOver_268 ?_
        refine wX9_takeOver_269 ?_
        refine wX9_takeOver_270 ?_
        refine wX9_takeOver_271 ?_
        refine wX9_takeOver_272 ?_
        refine wX9_takeOver_273 ?_
        refine wX9_takeOver_274 hM.c ?_
        refine wX9_takeOver_277 ?_
        refine wX9_takeOver_279 ?_
        refine wX9_takeOver_280 ?_
        refine wX9_takeOver_281 ?_
        refine wX9_takeOver_282 ?_
        refine wX9_takeOver_283 hM.a8 (show (9 : Int32) * nI p + nI (1 + m) = nI (9 * p + (1 + m)) from by rw [show (9 : Int32) = nI 9 from rfl, nI_mul, nI_add]) (show 9 * p + (1 + m) < 216 by omega) (by decide) ?_
        refine wX9_takeOver_284 ?_
        refine wX9_takeOver_285 hM.a1 (show nI (6 + 10 * p) + (2 : Int32) + nI (1 + m) = nI (6 + 10 * p + 2 + (1 + m)) from by rw [show (2 : Int32) = nI 2 from rfl, nI_add, nI_add]) (show 6 + 10 * p + 2 + (1 + m) < 386 by omega) (by decide) ?_
        refine q_nL (k := 1) (by decide) hM ho (fun h2 hM ho => ?_)
        have hM := hM.e mLr_2
        refine wX9_takeOver_286 ?_
        refine wX9_takeOver_289 ?_
        have hr1 := tk_st hr (v := (M.2.2 8 (9 * p + (1 + m))).toInt64) (by rw [show 6 + 10 * p + 3 + m = 6 + 10 * p + (3 + m) by omega, tk_pl hkn (by omega), if_neg (by omega), if_pos (by omega), show 3 + m - 2 = 1 + m by omega]) (by omega)
        refine q_ls ?_ (ih2 _ _ (fun i hi => ?_) hM ho)
        · rw [nI_1]; rfl
        · rw [show 6 + 10 * p + 2 + (1 + m) = 6 + 10 * p + 3 + m by omega]; exact hr1 i hi
  have hj173 : ∀ hh f3 f4 r, (∀ c, c < nb → f3 c = M.2.2 7 (2 * c) ∧ f4 c = M.2.2 7 (2 * c + 1)) → (∀ i, i < 386 → r i = if i < 6 then tk_at (M.2.2 8) (M.2.2 6 3) i else 0) → isM hh a (mLr (m34 (tk_S M) f3 f4) 1 r) → q_out a 13 h hh → QW V iX9_takeOver 173 [some (.ref a), some (.int (nI 0)), none, none] [] hh z 0 0 (q_Kv P) Kx := by
    intro hh f3 f4 r hb hr hM ho
    refine q_for (P := fun t => ∀ hh r, (∀ i, i < 386 → r i = if i < 6 ∨ (246 ≤ i ∧ i < 246 + 35 * t) then tk_at (M.2.2 8) (M.2.2 6 3) i else 0) → isM hh a (mLr (m34 (tk_S M) f3 f4) 1 r) → q_out a 13 h hh → QW V iX9_takeOver 173 [some (.ref a), some (.int (nI t)), none, none] [] hh z 0 0 (q_Kv P) Kx) 4 ?_ ?_ hh r (fun i hi => by rw [hr i hi]; simp only [show (i < 6 ∨ (246 ≤ i ∧ i < 246 + 35 * 0)) = (i < 6) from propext (by omega)]) hM ho
    · intro hh r hr hM ho
      refine wX9_takeOver_173 ?_
      refine wX9_takeOver_174 ?_
      refine wX9_takeOver_175 (fun c175 => ?_) (fun c175 => absurd (by decide) c175)
      refine wX9_takeOver_204 ?_
      refine wX9_takeOver_205 ?_
      exact hj206 _ f3 f4 _ hb (fun i hi => by rw [hr i hi]; simp only [show (i < 6 ∨ (246 ≤ i ∧ i < 246 + 35 * 4)) = (i < 6 ∨ 246 ≤ i) from propext (by omega)]) hM ho
    · intro t hkn ih hh r hr hM ho
      refine wX9_takeOver_173 ?_
      refine wX9_takeOver_174 ?_
      refine wX9_takeOver_175 (fun c175 => absurd c175 (nI_ge (b := 4) hkn (by decide))) (fun c175 => ?_)
      refine wX9_takeOver_178 ?_
      refine wX9_takeOver_179 hM.c ?_
      refine wX9_takeOver_182 ?_
      refine wX9_takeOver_185 ?_
      refine wX9_takeOver_187 ?_
      refine wX9_takeOver_188 ?_
      refine wX9_takeOver_189 ?_
      refine wX9_takeOver_190 ?_
      refine wX9_takeOver_191 ?_
      refine wX9_takeOver_192 ?_
      refine wX9_takeOver_193 hM.c ?_
      refine wX9_takeOver_196 ?_
      refine wX9_takeOver_197 hM.a1 (nI_ix 246 35 t 0) (show 246 + 35 * t + 0 < 386 by omega) (by decide) ?_
      refine q_nL (k := 1) (by decide) hM ho (fun h2 hM ho => ?_)
      have hM := hM.e mLr_2
      refine wX9_takeOver_198 ?_
      refine wX9_takeOver_201 ?_
      refine q_ls ?_ (ih _ _ (fun i hi => ?_) hM ho)
      · rw [nI_1]
      · show vp_updL r (246 + 35 * t + 0) (M.2.2 6 3).toInt64 i = _
        unfold vp_updL
        by_cases e : i = 246 + 35 * t + 0
        · rw [if_pos e, if_pos (by omega), e, tk_tm (by decide), if_pos rfl]
        · rw [if_neg e, hr i hi]
          by_cases e1 : i < 6 ∨ (246 ≤ i ∧ i < 246 + 35 * t)
          · rw [if_pos e1, if_pos (by omega)]
          · rw [if_neg e1]
            by_cases e2 : i < 6 ∨ (246 ≤ i ∧ i < 246 + 35 * (t + 1))
            · rw [if_pos e2]
              obtain ⟨w, hw, ew⟩ : ∃ w, w < 35 ∧ i = 246 + 35 * t + w := ⟨i - (246 + 35 * t), by omega, by omega⟩
              rw [ew, tk_tm hw, if_neg (by omega)]
            · rw [if_neg e2]
  have hj137 : ∀ hh f3 f4, (∀ c, c < nb → f3 c = M.2.2 7 (2 * c) ∧ f4 c = M.2.2 7 (2 * c + 1)) → isM hh a (m34 (tk_S M) f3 f4) → q_out a 13 h hh → QW V iX9_takeOver 137 [some (.ref a), some (.int (nI 0)), none, none] [] hh z 0 0 (q_Kv P) Kx := by
    intro hh f3 f4 hb hM ho
    refine q_for (P := fun i => ∀ hh r, (∀ q, q < i → r q = 0) → isM hh a (mLr (m34 (tk_S M) f3 f4) 1 r) → q_out a 13 h hh → QW V iX9_takeOver 137 [some (.ref a), some (.int (nI i)), none, none] [] hh z 0 0 (q_Kv P) Kx) 386 ?_ ?_ hh _ (fun q hq => absurd hq (by omega)) (hM.e mLr_i.symm) ho
    · intro hh r hr hM ho
      refine wX9_takeOver_137 ?_
      refine wX9_takeOver_138 ?_
      refine wX9_takeOver_141 (fun c141 => ?_) (fun c141 => absurd (by decide) c141)
      refine wX9_takeOver_157 ?_
      refine wX9_takeOver_158 hM.c ?_
      refine wX9_takeOver_161 ?_
      refine wX9_takeOver_162 ?_
      refine wX9_takeOver_163 hM.a1 (j := 1) rfl (by decide) (by decide) ?_
      refine q_nL (k := 1) (by decide) hM ho (fun h2 hM ho => ?_)
      have hM := hM.e mLr_2
      refine wX9_takeOver_164 ?_
      refine wX9_takeOver_165 hM.c ?_
      refine wX9_takeOver_168 ?_
      refine wX9_takeOver_169 ?_
      refine wX9_takeOver_170 hM.a1 (j := 3) rfl (by decide) (by decide) ?_
      refine q_nL (k := 1) (by decide) hM ho (fun h2 hM ho => ?_)
      have hM := hM.e mLr_2
      refine wX9_takeOver_171 ?_
      refine wX9_takeOver_172 ?_
      refine hj173 _ f3 f4 _ hb (fun i hi => ?_) hM ho
      show vp_updL (vp_updL r 1 1) 3 1 i = _
      unfold vp_updL
      by_cases e3 : i = 3
      · subst e3; rfl
      · rw [if_neg e3]
        by_cases e1 : i = 1
        · subst e1; rfl
        · rw [if_neg e1, hr i hi]
          by_cases e6 : i < 6
          · rw [if_pos e6]; unfold tk_at; rw [if_pos e6, if_neg (by omega)]
          · rw [if_neg e6]
    · intro i hkn ih hh r hr hM ho
      refine wX9_takeOver_137 ?_
      refine wX9_takeOver_138 ?_
      refine wX9_takeOver_141 (fun c141 => absurd c141 (nI_ge (b := 386) hkn (by decide))) (fun c141 => ?_)
      refine wX9_takeOver_144 ?_
      refine wX9_takeOver_145 hM.c ?_
      refine wX9_takeOver_148 ?_
      refine wX9_takeOver_149 ?_
      refine wX9_takeOver_150 hM.a1 rfl (show i < 386 from hkn) (by decide) ?_
      refine q_nL (k := 1) (by decide) hM ho (fun h2 hM ho => ?_)
      have hM := hM.e mLr_2
      refine wX9_takeOver_151 ?_
      refine wX9_takeOver_154 ?_
      refine q_ls ?_ (ih _ _ (fun q hq => ?_) hM ho)
      · rw [nI_1]
      · show vp_updL r i 0 q = 0
        unfold vp_updL
        by_cases e : q = i
        · rw [if_pos e]
        · rw [if_neg e]; exact hr q (by omega)
  refine eX9_takeOver ?_
  refine wX9_takeOver_0 ?_
  refine wX9_takeOver_1 ?_
  refine wX9_takeOver_2 hM.c ?_
  refine q_sx (k := 3) hM ho (fun h2 hM ho => ?_)
  refine wX9_takeOver_5 ?_
  refine wX9_takeOver_6 ?_
  refine wX9_takeOver_7 hM.c ?_
  refine q_sx (k := 2) hM ho (fun h2 hM ho => ?_)
  refine wX9_takeOver_10 ?_
  refine wX9_takeOver_11 ?_
  refine wX9_takeOver_12 hM.c ?_
  refine wX9_takeOver_15 ?_
  refine wX9_takeOver_16 hM.a6 (j := 0) rfl (by decide) (by decide) ?_
  refine wX9_takeOver_17 hM.c ?_
  refine q_sx (k := 8) hM ho (fun h2 hM ho => ?_)
  refine wX9_takeOver_20 ?_
  refine wX9_takeOver_21 ?_
  refine wX9_takeOver_22 hM.c ?_
  refine wX9_takeOver_25 ?_
  refine wX9_takeOver_26 hM.a6 (j := 1) rfl (by decide) (by decide) ?_
  refine wX9_takeOver_27 hM.c ?_
  refine q_sx (k := 9) hM ho (fun h2 hM ho => ?_)
  refine wX9_takeOver_30 ?_
  refine wX9_takeOver_31 ?_
  refine wX9_takeOver_32 hM.c ?_
  refine wX9_takeOver_35 ?_
  refine wX9_takeOver_36 hM.a6 (j := 2) rfl (by decide) (by decide) ?_
  refine wX9_takeOver_37 hM.c ?_
  refine q_sx (k := 10) hM ho (fun h2 hM ho => ?_)
  refine wX9_takeOver_40 ?_
  refine wX9_takeOver_41 ?_
  refine wX9_takeOver_42 hM.c ?_
  refine wX9_takeOver_45 ?_
  refine wX9_takeOver_46 hM.a6 (j := 3) rfl (by decide) (by decide) ?_
  refine wX9_takeOver_47 hM.c ?_
  refine q_sx (k := 11) hM ho (fun h2 hM ho => ?_)
  refine wX9_takeOver_50 ?_
  refine wX9_takeOver_51 ?_
  refine wX9_takeOver_52 hM.c ?_
  refine wX9_takeOver_55 ?_
  refine wX9_takeOver_56 hM.a6 (j := 4) rfl (by decide) (by decide) ?_
  refine wX9_takeOver_57 hM.c ?_
  refine q_sx (k := 12) hM ho (fun h2 hM ho => ?_)
  refine wX9_takeOver_60 ?_
  refine wX9_takeOver_61 ?_
  refine wX9_takeOver_62 hM.c ?_
  refine wX9_takeOver_65 ?_
  refine wX9_takeOver_66 hM.a6 (j := 5) rfl (by decide) (by decide) ?_
  refine wX9_takeOver_67 hM.c ?_
  refine q_sx (k := 5) hM ho (fun h2 hM ho => ?_)
  refine wX9_takeOver_70 ?_
  refine wX9_takeOver_71 ?_
  refine wX9_takeOver_72 hM.c ?_
  refine wX9_takeOver_75 ?_
  refine wX9_takeOver_77 hM.a6 (j := 6) rfl (by decide) (by decide) ?_
  refine wX9_takeOver_78 hM.c ?_
  refine q_sx (k := 6) hM ho (fun h2 hM ho => ?_)
  refine wX9_takeOver_81 ?_
  refine wX9_takeOver_82 ?_
  refine wX9_takeOver_83 hM.c ?_
  refine wX9_takeOver_86 hM.c ?_
  refine q_sx (k := 7) hM ho (fun h2 hM ho => ?_)
  refine wX9_takeOver_89 ?_
  refine wX9_takeOver_90 ?_
  have hM : isM h2 a (tk_S M) := hM
  refine q_for (P := fun b => ∀ hh f3 f4, (∀ c, c < b → f3 c = M.2.2 7 (2 * c) ∧ f4 c = M.2.2 7 (2 * c + 1)) → isM hh a (m34 (tk_S M) f3 f4) → q_out a 13 h hh → QW V iX9_takeOver 91 [some (.ref a), some (.int (nI b)), none, none] [] hh z 0 0 (q_Kv P) Kx) nb ?_ ?_ _ _ _ (fun c hc => absurd hc (by omega)) (hM.e m34_i.symm) ho
  · intro hh f3 f4 hb hM ho
    refine wX9_takeOver_91 ?_
    refine wX9_takeOver_92 ?_
    refine wX9_takeOver_93 hM.c ?_
    refine wX9_takeOver_96 (fun c96 => ?_) (fun c96 => absurd (nI_leq hnb2 (Nat.le_refl _) (by omega)) c96)
    refine wX9_takeOver_135 ?_
    refine wX9_takeOver_136 ?_
    exact hj137 _ f3 f4 hb hM ho
  · intro b hkn ih hh f3 f4 hb hM ho
    refine wX9_takeOver_91 ?_
    refine wX9_takeOver_92 ?_
    refine wX9_takeOver_93 hM.c ?_
    refine wX9_takeOver_96 (fun c96 => absurd c96 (nI_geq hnb2 hkn (by omega))) (fun c96 => ?_)
    refine wX9_takeOver_99 ?_
    refine wX9_takeOver_100 hM.c ?_
    refine wX9_takeOver_103 ?_
    refine wX9_takeOver_104 ?_
    refine wX9_takeOver_105 hM.c ?_
    refine wX9_takeOver_108 ?_
    refine wX9_takeOver_109 ?_
    refine wX9_takeOver_110 ?_
    refine wX9_takeOver_111 hM.a7 (show (2 : Int32) * nI b = nI (2 * b) from nI_mul 2 b) (show 2 * b < 8 by omega) (by decide) ?_
    refine wX9_takeOver_112 hM.a3 rfl (show b < 4 by omega) (by decide) ?_
    refine q_nI (k := 3) (by decide) hM ho (fun h2 hM ho => ?_)
    have hM := hM.e m34_3
    refine wX9_takeOver_113 ?_
    refine wX9_takeOver_114 hM.c ?_
    refine wX9_takeOver_117 ?_
    refine wX9_takeOver_118 ?_
    refine wX9_takeOver_119 hM.c ?_
    refine wX9_takeOver_122 ?_
    refine wX9_takeOver_123 ?_
    refine wX9_takeOver_124 ?_
    refine wX9_takeOver_125 ?_
    refine wX9_takeOver_126 ?_
    refine wX9_takeOver_127 hM.a7 (show (2 : Int32) * nI b + 1 = nI (2 * b + 1) from by rw [show (2 : Int32) = nI 2 from rfl, nI_mul, nI_1]) (show 2 * b + 1 < 8 by omega) (by decide) ?_
    refine wX9_takeOver_128 hM.a4 rfl (show b < 4 by omega) (by decide) ?_
    refine q_nI (k := 4) (by decide) hM ho (fun h2 hM ho => ?_)
    have hM := hM.e m34_4
    refine wX9_takeOver_129 ?_
    refine wX9_takeOver_132 ?_
    refine q_ls ?_ (ih _ (upd f3 b (M.2.2 7 (2 * b))) (upd f4 b (M.2.2 7 (2 * b + 1))) (fun c hc => ?_) hM ho)
    · rw [nI_1]
    · rw [upd_at, upd_at]
      by_cases e : c = b
      · rw [if_pos e, if_pos e, e]; exact ⟨rfl, rfl⟩
      · rw [if_neg e, if_neg e]; exact hb c (by omega)
theorem mX9_errorPosition {a : Nat} {M : q_Mo} {P : Int32 → q_H → Option Nat → Prop} (hM : isM h a M) (hk : ∀ h2, isM h2 a (mS M 4 0) → q_out a 13 h h2 → P (M.1 23) h2 z) : QMi V iX9_errorPosition [.ref a] h z P Kx := by
  have ho : q_out a 13 h h := q_out.refl
  refine eX9_errorPosition ?_
  refine wX9_errorPosition_0 ?_
  refine wX9_errorPosition_1 ?_
  refine wX9_errorPosition_2 hM.c ?_
  refine q_sx (k := 4) hM ho (fun h2 hM ho => ?_)
  refine wX9_errorPosition_5 ?_
  refine wX9_errorPosition_6 hM.c ?_
  refine wX9_errorPosition_9  ?_
  exact hk _ hM ho
/-- four bytes more in the buffer -/
def mb_w (M : q_Mo) (n : Nat) (x : Int32) : q_Mo := mS (mIr M 5 (upd (upd (upd (upd (M.2.2 5) n ((x >>> (24 &&& 31)) &&& 255)) (n + 1) ((x >>> (16 &&& 31)) &&& 255)) (n + 2) ((x >>> (8 &&& 31)) &&& 255)) (n + 3) ((x >>> (0 &&& 31)) &&& 255))) 16 (nI (n + 4))
theorem put_i {M : q_Mo} {n : Nat} (hn : M.1 16 = nI n) : mS (mIr M 5 (M.2.2 5)) 16 (nI n) = M := by
  rw [mIr_i, ← hn]; exact congrArg (fun q => (q, M.2)) upd_i
theorem put_s {M : q_Mo} {F G : Nat → Int32} {c : Nat} : mS (mIr (mS (mIr M 5 F) 16 (nI c)) 5 G) 16 (nI c + 1) = mS (mIr M 5 G) 16 (nI (c + 1)) := by
  rw [nI_1]
  exact (congrArg (fun q => (q, (mIr (mIr M 5 F) 5 G).2)) upd_2).trans (congrArg (fun q => (upd M.1 16 (nI (c + 1)), q)) (congrArg Prod.snd mIr_2))
theorem mX9_put {a : Nat} {M : q_Mo} {n : Nat} {x : Int32} {P : q_H → Option Nat → Prop} (hM : isM h a M) (hn : M.1 16 = nI n) (hn9 : n + 4 ≤ 900) (hk : ∀ h2, isM h2 a (mb_w M n x) → q_out a 13 h h2 → P h2 z) : QMv V iX9_put [.ref a, .int x] h z P Kx := by
  have ho : q_out a 13 h h := q_out.refl
  have hM : isM h a (mS (mIr M 5 (M.2.2 5)) 16 (nI n)) := hM.e (put_i hn).symm
  refine eX9_put ?_
  refine wX9_put_0 ?_
  refine wX9_put_2 ?_
  refine wX9_put_3 ?_
  refine wX9_put_4 (fun c4 => absurd c4 (by decide)) (fun c4 => ?_)
  refine wX9_put_7 ?_
  refine wX9_put_8 hM.c ?_
  refine wX9_put_11 ?_
  refine wX9_put_12 hM.c ?_
  refine wX9_put_15 ?_
  refine wX9_put_16 ?_
  refine wX9_put_17 ?_
  refine wX9_put_18 ?_
  refine wX9_put_21 ?_
  refine wX9_put_22 hM.a5 (show nI n = nI n from rfl) (show n < 900 by omega) (by decide) ?_
  refine q_nI (k := 5) (by decide) hM ho (fun h2 hM ho => ?_)
  refine wX9_put_23 ?_
  refine wX9_put_24 ?_
  refine wX9_put_25 hM.c ?_
  refine wX9_put_28 ?_
  refine wX9_put_29 ?_
  refine wX9_put_30 hM.c ?_
  refine q_sx (k := 16) hM ho (fun h2 hM ho => ?_)
  refine wX9_put_33 ?_
  refine wX9_put_36 ?_
  have hM : isM h2 a (mS (mIr M 5 (upd (M.2.2 5) n ((x >>> (24 &&& 31)) &&& 255))) 16 (nI (n + 1))) := hM.e put_s
  rw [show (24 : Int32) + (-8) = 16 from by decide]
  refine wX9_put_3 ?_
  refine wX9_put_4 (fun c4 => absurd c4 (by decide)) (fun c4 => ?_)
  refine wX9_put_7 ?_
  refine wX9_put_8 hM.c ?_
  refine wX9_put_11 ?_
  refine wX9_put_12 hM.c ?_
  refine wX9_put_15 ?_
  refine wX9_put_16 ?_
  refine wX9_put_17 ?_
  refine wX9_put_18 ?_
  refine wX9_put_21 ?_
  refine wX9_put_22 hM.a5 (show nI (n + 1) = nI (n + 1) from rfl) (show (n + 1) < 900 by omega) (by decide) ?_
  refine q_nI (k := 5) (by decide) hM ho (fun h2 hM ho => ?_)
  refine wX9_put_23 ?_
  refine wX9_put_24 ?_
  refine wX9_put_25 hM.c ?_
  refine wX9_put_28 ?_
  refine wX9_put_29 ?_
  refine wX9_put_30 hM.c ?_
  refine q_sx (k := 16) hM ho (fun h2 hM ho => ?_)
  refine wX9_put_33 ?_
  refine wX9_put_36 ?_
  have hM : isM h2 a (mS (mIr M 5 (upd ((upd (M.2.2 5) n ((x >>> (24 &&& 31)) &&& 255))) (n + 1) ((x >>> (16 &&& 31)) &&& 255))) 16 (nI (n + 2))) := hM.e put_s
  rw [show (16 : Int32) + (-8) = 8 from by decide]
  refine wX9_put_3 ?_
  refine wX9_put_4 (fun c4 => absurd c4 (by decide)) (fun c4 => ?_)
  refine wX9_put_7 ?_
  refine wX9_put_8 hM.c ?_
  refine wX9_put_11 ?_
  refine wX9_put_12 hM.c ?_
  refine wX9_put_15 ?_
  refine wX9_put_16 ?_
  refine wX9_put_17 ?_
  refine wX9_put_18 ?_
  refine wX9_put_21 ?_
  refine wX9_put_22 hM.a5 (show nI (n + 2) = nI (n + 2) from rfl) (show (n + 2) < 900 by omega) (by decide) ?_
  refine q_nI (k := 5) (by decide) hM ho (fun h2 hM ho => ?_)
  refine wX9_put_23 ?_
  refine wX9_put_24 ?_
  refine wX9_put_25 hM.c ?_
  refine wX9_put_28 ?_
  refine wX9_put_29 ?_
  refine wX9_put_30 hM.c ?_
  refine q_sx (k := 16) hM ho (fun h2 hM ho => ?_)
  refine wX9_put_33 ?_
  refine wX9_put_36 ?_
  have hM : isM h2 a (mS (mIr M 5 (upd ((upd ((upd (M.2.2 5) n ((x >>> (24 &&& 31)) &&& 255))) (n + 1) ((x >>> (16 &&& 31)) &&& 255))) (n + 2) ((x >>> (8 &&& 31)) &&& 255))) 16 (nI (n + 3))) := hM.e put_s
  rw [show (8 : Int32) + (-8) = 0 from by decide]
  refine wX9_put_3 ?_
  refine wX9_put_4 (fun c4 => absurd c4 (by decide)) (fun c4 => ?_)
  refine wX9_put_7 ?_
  refine wX9_put_8 hM.c ?_
  refine wX9_put_11 ?_
  refine wX9_put_12 hM.c ?_
  refine wX9_put_15 ?_
  refine wX9_put_16 ?_
  refine wX9_put_17 ?_
  refine wX9_put_18 ?_
  refine wX9_put_21 ?_
  refine wX9_put_22 hM.a5 (show nI (n + 3) = nI (n + 3) from rfl) (show (n + 3) < 900 by omega) (by decide) ?_
  refine q_nI (k := 5) (by decide) hM ho (fun h2 hM ho => ?_)
  refine wX9_put_23 ?_
  refine wX9_put_24 ?_
  refine wX9_put_25 hM.c ?_
  refine wX9_put_28 ?_
  refine wX9_put_29 ?_
  refine wX9_put_30 hM.c ?_
  refine q_sx (k := 16) hM ho (fun h2 hM ho => ?_)
  refine wX9_put_33 ?_
  refine wX9_put_36 ?_
  have hM : isM h2 a (mS (mIr M 5 (upd ((upd ((upd ((upd (M.2.2 5) n ((x >>> (24 &&& 31)) &&& 255))) (n + 1) ((x >>> (16 &&& 31)) &&& 255))) (n + 2) ((x >>> (8 &&& 31)) &&& 255))) (n + 3) ((x >>> (0 &&& 31)) &&& 255))) 16 (nI (n + 4))) := hM.e put_s
  rw [show (0 : Int32) + (-8) = -8 from by decide]
  refine wX9_put_3 ?_
  refine wX9_put_4 (fun c4 => ?_) (fun c4 => absurd (by decide) c4)
  refine wX9_put_39  ?_
  exact hk _ hM ho
def mb_a (M : q_Mo) (n : Nat) (a b c d e : Int32) : q_Mo := mb_w (mb_w (mb_w (mb_w (mb_w M n a) (n + 4) b) (n + 8) c) (n + 12) d) (n + 16) e
theorem mX9_append {a : Nat} {M : q_Mo} {n : Nat} {a1 b1 c1 d1 e1 : Int32} {P : Int32 → q_H → Option Nat → Prop} (hM : isM h a M) (hn : M.1 16 = nI n) (hn9 : n ≤ 900) (hk : n + 20 ≤ 900 → ∀ h2, isM h2 a (mb_a (mS M 4 0) n a1 b1 c1 d1 e1) → q_out a 13 h h2 → P (nI (n + 20)) h2 z) (hx : ¬ n + 20 ≤ 900 → ∀ h2, isM h2 a (mS M 4 1) → q_out a 13 h h2 → P 0 h2 z) : QMi V iX9_append [.ref a, .int a1, .int b1, .int c1, .int d1, .int e1] h z P Kx := by
  have ho : q_out a 13 h h := q_out.refl
  have e20 : M.1 16 + 20 = nI (n + 20) := by rw [hn, show (20 : Int32) = nI 20 from rfl, nI_add]
  refine eX9_append ?_
  refine wX9_append_0 ?_
  refine wX9_append_1 ?_
  refine wX9_append_2 hM.c ?_
  refine wX9_append_5 ?_
  refine wX9_append_7 ?_
  rw [e20]
  refine wX9_append_8 ?_
  refine wX9_append_11 (fun c11 => ?_) (fun c11 => ?_)
  · refine wX9_append_18 ?_
    have hle : n + 20 ≤ 900 := Nat.le_of_not_lt (fun z => nI_ge z (by omega) c11)
    refine wX9_append_19 hM.c ?_
    refine q_sx (k := 4) hM ho (fun h2 hM ho => ?_)
    refine wX9_append_22 ?_
    refine wX9_append_23 hM.c ?_
    refine wX9_append_26 (fun c26 => ?_) (fun c26 => absurd (show (0 : Int32) ≤ 0 by decide) c26)
    refine wX9_append_31 ?_
    refine wX9_append_32 ?_
    have hn : (mS M 4 0).1 16 = nI n := hn
    refine wX9_append_33 hM.c (mX9_put hM hn (by omega) (fun h2 hM ho2 => ?_))
    have ho := ho.trans ho2
    refine wX9_append_36 ?_
    refine wX9_append_37 ?_
    refine wX9_append_38 hM.c (mX9_put (n := n + 4) hM rfl (by omega) (fun h2 hM ho2 => ?_))
    have ho := ho.trans ho2
    refine wX9_append_41 ?_
    refine wX9_append_42 ?_
    refine wX9_append_43 hM.c (mX9_put (n := n + 8) hM rfl (by omega) (fun h2 hM ho2 => ?_))
    have ho := ho.trans ho2
    refine wX9_append_46 ?_
    refine wX9_append_47 ?_
    refine wX9_append_49 hM.c (mX9_put (n := n + 12) hM rfl (by omega) (fun h2 hM ho2 => ?_))
    have ho := ho.trans ho2
    refine wX9_append_52 ?_
    refine wX9_append_53 ?_
    refine wX9_append_55 hM.c (mX9_put (n := n + 16) hM rfl (by omega) (fun h2 hM ho2 => ?_))
    have ho := ho.trans ho2
    refine wX9_append_58 ?_
    refine wX9_append_59 hM.c ?_
    refine wX9_append_62  ?_
    exact hk hle _ hM ho
  · refine wX9_append_14 ?_
    refine wX9_append_15 ?_
    have hgt : ¬ n + 20 ≤ 900 := fun z => c11 (nI_le (b := 900) z (by decide))
    refine wX9_append_19 hM.c ?_
    refine q_sx (k := 4) hM ho (fun h2 hM ho => ?_)
    refine wX9_append_22 ?_
    refine wX9_append_23 hM.c ?_
    refine wX9_append_26 (fun c26 => absurd c26 (show ¬ (1 : Int32) ≤ 0 by decide)) (fun c26 => ?_)
    refine wX9_append_29 ?_
    refine wX9_append_30  ?_
    exact hx hgt _ hM ho
theorem mX9_truncate {a : Nat} {M : q_Mo} {x : Int32} {P : Int32 → q_H → Option Nat → Prop} (hM : isM h a M) (hk : rg x 0 (M.1 16) = true → ∀ h2, isM h2 a (mS (mS M 4 0) 16 x) → q_out a 13 h h2 → P x h2 z) (hx : rg x 0 (M.1 16) = false → ∀ h2, isM h2 a (mS M 4 1) → q_out a 13 h h2 → P 0 h2 z) : QMi V iX9_truncate [.ref a, .int x] h z P Kx := by
  have ho : q_out a 13 h h := q_out.refl
  refine eX9_truncate ?_
  refine wX9_truncate_0 ?_
  refine wX9_truncate_1 ?_
  refine wX9_truncate_2 ?_
  refine wX9_truncate_3 ?_
  refine wX9_truncate_4 ?_
  refine wX9_truncate_5 hM.c ?_
  refine wX9_truncate_8 ?_
  refine wX9_truncate_9 (mX9_isIn ?_)
  refine wX9_truncate_12 (fun c12 => ?_) (fun c12 => ?_)
  · refine wX9_truncate_19 ?_
    have hg : rg x 0 (M.1 16) = false := by rw [← rgL_0]; exact q_b0 c12
    refine wX9_truncate_20 hM.c ?_
    refine q_sx (k := 4) hM ho (fun h2 hM ho => ?_)
    refine wX9_truncate_23 ?_
    refine wX9_truncate_24 hM.c ?_
    refine wX9_truncate_27 (fun c27 => absurd c27 (show ¬ (1 : Int32) ≤ 0 by decide)) (fun c27 => ?_)
    refine wX9_truncate_30 ?_
    refine wX9_truncate_31  ?_
    exact hx hg _ hM ho
  · refine wX9_truncate_15 ?_
    refine wX9_truncate_16 ?_
    have hg : rg x 0 (M.1 16) = true := by rw [← rgL_0]; exact q_b1 c12
    refine wX9_truncate_20 hM.c ?_
    refine q_sx (k := 4) hM ho (fun h2 hM ho => ?_)
    refine wX9_truncate_23 ?_
    refine wX9_truncate_24 hM.c ?_
    refine wX9_truncate_27 (fun c27 => ?_) (fun c27 => absurd (show (0 : Int32) ≤ 0 by decide) c27)
    refine wX9_truncate_32 ?_
    refine wX9_truncate_33 ?_
    refine wX9_truncate_34 hM.c ?_
    refine q_sx (k := 16) hM ho (fun h2 hM ho => ?_)
    refine wX9_truncate_37 ?_
    refine wX9_truncate_38 hM.c ?_
    refine wX9_truncate_41  ?_
    exact hk hg _ hM ho
end CX9l

/-! SalaryCapLedgerModel: load, the constructor -/
section CX9m
variable {V : q_En} {h : q_H} {z : Option Nat} {Kx : q_KX}
/-- what a failed load leaves as it was -/
def q_lf (M M' : q_Mo) : Prop := M'.2.1 = M.2.1 ∧ (∀ k, ¬ (6 ≤ k ∧ k ≤ 8) → M'.2.2 k = M.2.2 k) ∧ ∀ k, k < 16 → ¬ k = 4 → M'.1 k = M.1 k
theorem q_lf.x {M M1 M2 : q_Mo} (h1 : q_lf M M1) (h2 : q_tx M1 M2) : q_lf M M2 := ⟨(congrArg Prod.fst h2.1).trans h1.1, fun k hk => (congrFun (congrArg Prod.snd h2.1) k).trans (h1.2.1 k hk), fun k hk h4 => (h2.2 k (by omega)).trans (h1.2.2 k hk h4)⟩
theorem q_lf.zz {M M1 M2 : q_Mo} {x y : Nat} (h1 : q_lf M M1) (h2 : q_tz x y M1 M2) (hx : 6 ≤ x ∧ x ≤ 8) (hy : 16 < y) : q_lf M M2 := ⟨h2.1.trans h1.1, fun k hk => (h2.2.1 k (by omega)).trans (h1.2.1 k hk), fun k hk h4 => (h2.2.2 k (by omega) (by omega)).trans (h1.2.2 k hk h4)⟩
theorem q_lf.i {M M1 : q_Mo} {k : Nat} {g : Nat → Int32} (h1 : q_lf M M1) (hk : 6 ≤ k ∧ k ≤ 8) : q_lf M (mIr M1 k g) := ⟨h1.1, fun q hq => (if_neg (show ¬ q = k by omega)).trans (h1.2.1 q hq), h1.2.2⟩
theorem q_lf.s {M M1 : q_Mo} {k : Nat} {v : Int32} (h1 : q_lf M M1) (hk : k = 4 ∨ 16 ≤ k) : q_lf M (mS M1 k v) := ⟨h1.1, h1.2.1, fun q hq h4 => (upd_n (show ¬ q = k by omega)).trans (h1.2.2 q hq h4)⟩
theorem q_tz.g {x y : Nat} {M M' : q_Mo} (h : q_tz x y M M') {k : Nat} (hk : ¬ k = x) (j : Nat) : M'.2.2 k j = M.2.2 k j := by rw [h.2.1 k hk]
theorem rd_nb_ln {f : Nat → Int32} {r : q_Rd} {lo hi : Int32} (h : rd_ok r) : (rd_nb f r lo hi).2.ln = r.ln := (rd_nb_ok h).2
theorem rd_tok_mono {f : Nat → Int32} {r : q_Rd} (h : r.en ≤ r.ln) : r.en ≤ (rd_tok f r).en := by
  have hs := (rd_s_b (f := f) h).1
  unfold rd_tok
  split
  · exact hs
  · split
    · exact Nat.le_trans hs (rd_run_b _ _).1
    · split
      · exact Nat.le_trans hs (rd_nv_b _ _ _).1
      · exact Nat.le_trans hs (Nat.le_succ _)
theorem rd_tok_num {f : Nat → Int32} {r : q_Rd} (h : r.en ≤ r.ln) (hk : (rd_tok f r).kd = 2) : r.en < (rd_tok f r).en := by
  have hs := rd_s_b (f := f) h
  unfold rd_tok at hk ⊢
  by_cases h1 : r.ln ≤ rd_s f r
  · rw [if_pos h1] at hk; exact absurd (show (0 : Int32) = 2 from hk) (by decide)
  · rw [if_neg h1] at hk ⊢
    by_cases h2 : ch_let (f (rd_s f r)) = true
    · rw [if_pos h2] at hk; exact absurd (show (1 : Int32) = 2 from hk) (by decide)
    · rw [if_neg h2] at hk ⊢
      by_cases h3 : ch_dig (f (rd_s f r)) = true
      · rw [if_pos h3]
        show r.en < (rd_nv f (rd_s f r) (r.ln - rd_s f r) (rd_s f r) 0).1
        obtain ⟨m, em⟩ : ∃ m, r.ln - rd_s f r = m + 1 := ⟨r.ln - rd_s f r - 1, by omega⟩
        rw [em, rd_nv, if_pos h3]
        have := (rd_nv_b (f := f) (s := rd_s f r) m (rd_s f r + 1) (if rd_s f r - rd_s f r < 6 then 0 * 10 + (f (rd_s f r) - 48) else 0)).1
        omega
      · rw [if_neg h3] at hk
        have hk2 : (if f (rd_s f r) = 59 then (3 : Int32) else 4) = 2 := hk
        split at hk2 <;> exact absurd hk2 (by decide)
theorem rd_nb_mono {f : Nat → Int32} {r : q_Rd} {lo hi : Int32} (h : r.en ≤ r.ln) : r.en ≤ (rd_nb f r lo hi).2.en := by
  unfold rd_nb; split
  · exact Nat.le_refl _
  · split
    · split
      · unfold rd_fail; split <;> exact Nat.le_refl _
      · exact rd_tok_mono (r := (r.ec, r.ea, r.ct, r.ln, r.en, r.kd, r.st, r.vl, nI r.st)) h
    · unfold rd_fail; split <;> exact Nat.le_refl _
theorem rd_fail_mono {r : q_Rd} {c p : Int32} : (rd_fail r c p).en = r.en := by unfold rd_fail; split <;> rfl
theorem rd_semi_mono {f : Nat → Int32} {r : q_Rd} (h : r.en ≤ r.ln) : r.en ≤ (rd_semi f r).en := by
  unfold rd_semi; split
  · exact rd_tok_mono h
  · rw [rd_fail_mono]; exact Nat.le_refl _
theorem rd_tk_mono {f : Nat → Int32} {r : q_Rd} {N : Int32} {tk : Int32 → Bool} (h : r.en ≤ r.ln) : r.en ≤ (rd_tk f r N tk).en := by
  unfold rd_tk; split
  · rw [rd_fail_mono]; exact rd_nb_mono h
  · exact rd_nb_mono h
/-- the steps of a contract, by their places -/
theorem rd_step {f : Nat → Int32} {r Y : q_Rd} {X : Int32 × q_Rd} {lo hi : Int32} (hy : rd_nb f r lo hi = X) (h : rd_ok r ∧ r.ln = Y.ln ∧ Y.en ≤ r.en) : rd_ok X.2 ∧ X.2.ln = Y.ln ∧ Y.en ≤ X.2.en := by
  subst hy
  have := rd_nb_ok (f := f) (lo := lo) (hi := hi) h.1
  exact ⟨this.1, this.2.trans h.2.1, Nat.le_trans h.2.2 (rd_nb_mono h.1.2)⟩
theorem rd_stepT {f : Nat → Int32} {r Y X : q_Rd} {N : Int32} {tk : Int32 → Bool} (hy : rd_tk f r N tk = X) (hk : 0 ≤ r.kd ∧ r.kd ≤ 4) (h : rd_ok r ∧ r.ln = Y.ln ∧ Y.en ≤ r.en) : rd_ok X ∧ X.ln = Y.ln ∧ Y.en ≤ X.en := by
  subst hy
  have := rd_tk_ok (f := f) (N := N) (tk := tk) h.1 hk
  exact ⟨this.1, this.2.1.trans h.2.1, Nat.le_trans h.2.2 (rd_tk_mono h.1.2)⟩
theorem rd_stepS {f : Nat → Int32} {r Y X : q_Rd} (hy : rd_semi f r = X) (h : rd_ok r ∧ r.ln = Y.ln ∧ Y.en ≤ r.en) : rd_ok X ∧ X.ln = Y.ln ∧ Y.en ≤ X.en := by
  subst hy
  have := rd_semi_ok (f := f) h.1
  exact ⟨this.1, this.2.trans h.2.1, Nat.le_trans h.2.2 (rd_semi_mono h.1.2)⟩
theorem rd_nb_kdY {f : Nat → Int32} {r : q_Rd} {X : Int32 × q_Rd} {lo hi : Int32} (hy : rd_nb f r lo hi = X) (h : 0 ≤ r.kd ∧ r.kd ≤ 4) : 0 ≤ X.2.kd ∧ X.2.kd ≤ 4 := by subst hy; exact rd_nb_kd h
theorem rd_tk_kdY {f : Nat → Int32} {r X : q_Rd} {N : Int32} {tk : Int32 → Bool} (hy : rd_tk f r N tk = X) (hr : rd_ok r) (h : 0 ≤ r.kd ∧ r.kd ≤ 4) : 0 ≤ X.kd ∧ X.kd ≤ 4 := by subst hy; exact (rd_tk_ok hr h).2.2
theorem rd_word_kd {f : Nat → Int32} {r : q_Rd} {i : Nat} (h : 0 ≤ r.kd ∧ r.kd ≤ 4) : 0 ≤ (rd_word f r i).kd ∧ (rd_word f r i).kd ≤ 4 := by
  unfold rd_word; split
  · exact rd_tok_kd
  · exact rd_fail_kd h
theorem rd_nb_goodY {f : Nat → Int32} {r : q_Rd} {lo hi : Int32} {Y : Int32 × q_Rd} (hy : rd_nb f r lo hi = Y) (e : Y.2.ec = 0) : r.kd = 2 := by subst hy; exact (rd_nb_good e).1
theorem rd_cr_en {f : Nat → Int32} {r : q_Rd} {T : q_Te} {B : q_Bk} : (rd_cr f r T B).en = (rd_ca f r T B).en ∧ (rd_cr f r T B).ln = (rd_ca f r T B).ln := by
  rw [rd_cr_e]
  exact (fun X => (by split <;> exact ⟨rfl, rfl⟩ : (if rd_bad X = true then X else rd_inc X).en = X.en ∧ (if rd_bad X = true then X else rd_inc X).ln = X.ln)) (rd_ca f r T B)
/-- a contract read without an error moves on -/
theorem rd_cr_mono {f : Nat → Int32} {r : q_Rd} {T : q_Te} {B : q_Bk} (h : rd_ok r) (hk : 0 ≤ r.kd ∧ r.kd ≤ 4) (hw : rd_is f r 4 = true) (e : (rd_cr f r T B).ec = 0) : r.en < (rd_cr f r T B).en ∧ (rd_cr f r T B).ln = r.ln := by
  have eca : (rd_ca f r T B).ec = 0 := by rw [rd_cr_e, rd_cr_X] at e; exact e
  have e9 : (rd_c9 f r T B).2.ec = 0 := rd_semi_0Y (f := f) (Y := rd_ca f r T B) rfl eca
  have e8 : (rd_c8 f r T B).2.ec = 0 := rd_nb_0Y (f := f) (Y := rd_c9 f r T B) (lo := 0) (hi := (rd_c7 f r T B).1) rfl e9
  have e7 : (rd_c7 f r T B).2.ec = 0 := rd_nb_0Y (f := f) (Y := rd_c8 f r T B) (lo := 0) (hi := 99999) rfl e8
  have e6 : (rd_c6 f r T B).2.ec = 0 := rd_nb_0Y (f := f) (Y := rd_c7 f r T B) (lo := 1) (hi := 5) rfl e7
  have e5 : (rd_c5 f r T B).2.ec = 0 := rd_nb_0Y (f := f) (Y := rd_c6 f r T B) (lo := 0) (hi := 20) rfl e6
  have e4 : (rd_c4 f r T B).ec = 0 := rd_nb_0Y (f := f) (Y := rd_c5 f r T B) (lo := 1) (hi := 99999) rfl e5
  have t4 := rd_tk_0 (f := f) (r := rd_c2 f r T B) (N := te_t T - 1) (tk := fun v => !decide (q_bc (b_set B v 24) < 12)) (by rw [rd_c4_tk]; exact e4)
  have e3 : (rd_c3 f r T B).2.ec = 0 := by
    have := t4.2
    rw [rd_c4_tk] at this
    unfold rd_c3; rw [← this]; exact e4
  have e2 : (rd_c2 f r T B).ec = 0 := rd_nb_0Y (f := f) (Y := rd_c3 f r T B) (lo := 0) (hi := te_t T - 1) rfl e3
  have t2 := rd_tk_0 (f := f) (r := rd_word f r 4) (N := te_p T - 1) (tk := fun v => pl_has (b_p B v.toNatClampNeg)) (by rw [rd_c2_tk]; exact e2)
  have e1 : (rd_c1 f r T).2.ec = 0 := by
    have := t2.2
    rw [rd_c2_tk] at this
    unfold rd_c1; rw [← this]; exact e2
  have k1 : (rd_word f r 4).kd = 2 := rd_nb_goodY (f := f) (Y := rd_c1 f r T) (lo := 0) (hi := te_p T - 1) rfl e1
  have ew : rd_word f r 4 = rd_tok f r := by unfold rd_word; rw [if_pos hw]
  rw [ew] at k1
  have m0 := rd_tok_num h.2 k1
  have o0 := rd_tok_ok (f := f) h.2
  have W : rd_ok (rd_word f r 4) ∧ (rd_word f r 4).ln = (rd_tok f r).ln ∧ (rd_tok f r).en ≤ (rd_word f r 4).en := by rw [ew]; exact ⟨o0.1, rfl, Nat.le_refl _⟩
  have kw : 0 ≤ (rd_word f r 4).kd ∧ (rd_word f r 4).kd ≤ 4 := rd_word_kd hk
  have W2 := rd_stepT (Y := rd_tok f r) (rd_c2_tk (f := f) (r := r) (T := T) (B := B)) kw W
  have kw2 := rd_tk_kdY (rd_c2_tk (f := f) (r := r) (T := T) (B := B)) W.1 kw
  have W4 := rd_stepT (Y := rd_tok f r) (rd_c4_tk (f := f) (r := r) (T := T) (B := B)) kw2 W2
  have W5 := rd_step (Y := rd_tok f r) (f := f) (X := rd_c5 f r T B) (lo := 1) (hi := 99999) rfl W4
  have W6 := rd_step (Y := rd_tok f r) (f := f) (X := rd_c6 f r T B) (lo := 0) (hi := 20) rfl W5
  have W7 := rd_step (Y := rd_tok f r) (f := f) (X := rd_c7 f r T B) (lo := 1) (hi := 5) rfl W6
  have W8 := rd_step (Y := rd_tok f r) (f := f) (X := rd_c8 f r T B) (lo := 0) (hi := 99999) rfl W7
  have W9 := rd_step (Y := rd_tok f r) (f := f) (X := rd_c9 f r T B) (lo := 0) (hi := (rd_c7 f r T B).1) rfl W8
  have WA := rd_stepS (Y := rd_tok f r) (f := f) (X := rd_ca f r T B) rfl W9
  have ce := rd_cr_en (f := f) (r := r) (T := T) (B := B)
  rw [ce.1, ce.2]
  exact ⟨Nat.lt_of_lt_of_le m0 WA.2.2, WA.2.1.trans o0.2⟩
theorem rd_nbY_b {f : Nat → Int32} {r : q_Rd} {lo hi : Int32} {Y : Int32 × q_Rd} (hy : rd_nb f r lo hi = Y) (e : ¬ r.ec = 0) : Y.2 = r := by subst hy; rw [rd_nb_b e]
theorem rd_tkY_b {f : Nat → Int32} {r Y : q_Rd} {N : Int32} {tk : Int32 → Bool} (hy : rd_tk f r N tk = Y) (e : ¬ r.ec = 0) : Y = r := by
  subst hy
  rw [rd_tk_bad (by rw [rd_nb_b e]; exact e), rd_nb_b e]
theorem rd_semiY_b {f : Nat → Int32} {r Y : q_Rd} (hy : rd_semi f r = Y) (e : ¬ r.ec = 0) : Y.ec = r.ec ∧ Y.ea = r.ea := by subst hy; exact rd_semi_b e
/-- what stands instead of a contract is an error -/
theorem rd_cr_bad {f : Nat → Int32} {r : q_Rd} {T : q_Te} {B : q_Bk} (hw : rd_is f r 4 = false) : (rd_cr f r T B).ec = (rd_fail r 1 (nI r.st)).ec ∧ (rd_cr f r T B).ea = (rd_fail r 1 (nI r.st)).ea ∧ ¬ (rd_cr f r T B).ec = 0 := by
  have n1 : ¬ (rd_fail r 1 (nI r.st)).ec = 0 := rd_fail_ne (by decide)
  have ew : rd_word f r 4 = rd_fail r 1 (nI r.st) := by unfold rd_word; rw [if_neg (by rw [hw]; decide)]
  have w2 : rd_c2 f r T B = rd_fail r 1 (nI r.st) := (rd_tkY_b (rd_c2_tk (f := f) (r := r) (T := T) (B := B)) (by rw [ew]; exact n1)).trans ew
  have w4 : rd_c4 f r T B = rd_fail r 1 (nI r.st) := (rd_tkY_b (rd_c4_tk (f := f) (r := r) (T := T) (B := B)) (by rw [w2]; exact n1)).trans w2
  have w5 : (rd_c5 f r T B).2 = rd_fail r 1 (nI r.st) := (rd_nbY_b (f := f) (Y := rd_c5 f r T B) (lo := 1) (hi := 99999) rfl (by rw [w4]; exact n1)).trans w4
  have w6 : (rd_c6 f r T B).2 = rd_fail r 1 (nI r.st) := (rd_nbY_b (f := f) (Y := rd_c6 f r T B) (lo := 0) (hi := 20) rfl (by rw [w5]; exact n1)).trans w5
  have w7 : (rd_c7 f r T B).2 = rd_fail r 1 (nI r.st) := (rd_nbY_b (f := f) (Y := rd_c7 f r T B) (lo := 1) (hi := 5) rfl (by rw [w6]; exact n1)).trans w6
  have w8 : (rd_c8 f r T B).2 = rd_fail r 1 (nI r.st) := (rd_nbY_b (f := f) (Y := rd_c8 f r T B) (lo := 0) (hi := 99999) rfl (by rw [w7]; exact n1)).trans w7
  have w9 : (rd_c9 f r T B).2 = rd_fail r 1 (nI r.st) := (rd_nbY_b (f := f) (Y := rd_c9 f r T B) (lo := 0) (hi := (rd_c7 f r T B).1) rfl (by rw [w8]; exact n1)).trans w8
  have ca := rd_semiY_b (f := f) (Y := rd_ca f r T B) rfl (show ¬ (rd_c9 f r T B).2.ec = 0 by rw [w9]; exact n1)
  rw [w9] at ca
  have nca : ¬ (rd_ca f r T B).ec = 0 := by rw [ca.1]; exact n1
  have ecr : rd_cr f r T B = rd_ca f r T B := by rw [rd_cr_e, if_pos (rd_bad_ne nca)]
  rw [ecr]
  exact ⟨ca.1, ca.2, nca⟩
theorem rd_cl_stop {f : Nat → Int32} {T : q_Te} {n : Nat} {r : q_Rd} {B : q_Bk} (h : ¬ r.ec = 0 ∨ r.kd = 0) : rd_cl f T n r B = (r, B) := by
  cases n with
  | zero => rfl
  | succ n => rw [rd_cl, if_pos (h.elim (fun z => Or.inl (rd_bad_ne z)) Or.inr)]
theorem rd_bl_keep {f : Nat → Int32} (n : Nat) : ∀ k r T, te_c (rd_bl f n k r T).2 = te_c T ∧ te_l (rd_bl f n k r T).2 = te_l T ∧ (rd_bl f n k r T).2.2.2.2.2.2 = T.2.2.2.2.2 := by
  induction n with
  | zero => intro k r T; exact ⟨rfl, rfl, rfl⟩
  | succ n ih =>
    intro k r T
    rw [rd_bl]
    split
    · obtain ⟨h1, h2, h3⟩ := ih (k + 1) (rd_b3 f r) (te_ab T k (rd_b1 f r).1 (rd_b2 f r).1)
      exact ⟨h1.trans rfl, h2.trans rfl, h3.trans rfl⟩
    · exact ⟨rfl, rfl, rfl⟩
theorem rd_bf_ok {f : Nat → Int32} {r : q_Rd} (h : (rd_bf f r).ec = 0) : rd_bf f r = r := by
  unfold rd_bf at h ⊢
  split at h
  · exact absurd h (rd_fail_ne (by decide))
  · rename_i q; rw [if_neg q]
theorem mX9_readBracketsY {a : Nat} {M : q_Mo} {f : Nat → Int32} {r Z : q_Rd} {T : q_Te} {Y : q_Rd × q_Te} {P : q_H → Option Nat → Prop} (hy : rd_b5 f r T = Y) (hz : rd_bf f Y.1 = Z) (hM : isM h a M) (hc : cpl M f r) (hk : ∀ h2 M2, isM h2 a M2 → q_tz 7 26 M M2 → cpl M2 f Z → (Z.ec = 0 → Z = Y.1 ∧ ∃ k, 1 ≤ k ∧ k ≤ 4 ∧ M2.1 26 = nI k ∧ te_n Y.2 = nI k ∧ cpb M2 Y.2 k) → q_out a 13 h h2 → P h2 z) : QMv V iX9_readBrackets [.ref a] h z P Kx := by
  subst hy; subst hz
  exact mX9_readBrackets (T := T) hM hc (fun h2 M2 q1 q2 q3 q4 q5 => hk h2 M2 q1 q2 q3 (fun e => ⟨rd_bf_ok e, q4 e⟩) q5)
theorem rd_tT_e {f : Nat → Int32} {L : Nat} {r : q_Rd} {T : q_Te} : rd_tT f L r T = te_sP (te_sT (rd_t2 f L r T).2 (rd_t3 f L r T).1) (rd_t4 f L r T).1 := rfl
theorem te_PT {X : q_Te} {a b : Int32} : te_t (te_sP (te_sT X a) b) = a ∧ te_p (te_sP (te_sT X a) b) = b ∧ te_n (te_sP (te_sT X a) b) = te_n X ∧ te_s (te_sP (te_sT X a) b) = te_s X ∧ te_r (te_sP (te_sT X a) b) = te_r X ∧ te_c (te_sP (te_sT X a) b) = te_c X ∧ te_l (te_sP (te_sT X a) b) = te_l X ∧ te_m (te_sP (te_sT X a) b) = te_m X ∧ te_u (te_sP (te_sT X a) b) = te_u X := ⟨rfl, rfl, rfl, rfl, rfl, rfl, rfl, rfl, rfl⟩
theorem rd_tT_p {f : Nat → Int32} {L : Nat} {r : q_Rd} {T : q_Te} : te_t (rd_tT f L r T) = (rd_t3 f L r T).1 ∧ te_p (rd_tT f L r T) = (rd_t4 f L r T).1 ∧ te_n (rd_tT f L r T) = te_n (rd_t2 f L r T).2 ∧ te_s (rd_tT f L r T) = te_s (rd_t2 f L r T).2 ∧ te_r (rd_tT f L r T) = te_r (rd_t2 f L r T).2 ∧ te_c (rd_tT f L r T) = te_c (rd_t2 f L r T).2 ∧ te_l (rd_tT f L r T) = te_l (rd_t2 f L r T).2 ∧ te_m (rd_tT f L r T) = te_m (rd_t2 f L r T).2 ∧ te_u (rd_tT f L r T) = te_u (rd_t2 f L r T).2 := by
  rw [rd_tT_e]; exact te_PT
theorem cpb_mv {M M' : q_Mo} {T T' : q_Te} {k : Nat} (h : cpb M T k) (e1 : te_s T' = te_s T) (e2 : te_r T' = te_r T) (e3 : ∀ j, M'.2.2 7 j = M.2.2 7 j) : cpb M' T' k := fun b hb => by
  rw [e1, e2, e3, e3]; exact h b hb
/-- what the drafts hold when all was read without an error, beside what the class holds -/
def ld_ok (M M0 : q_Mo) (f : Nat → Int32) (L : Nat) (r : q_Rd) (T : q_Te) (nt np nb : Nat) : Prop :=
  (1 ≤ nt ∧ nt ≤ 4) ∧ (1 ≤ np ∧ np ≤ 24) ∧ (1 ≤ nb ∧ nb ≤ 4) ∧ te_t (rd_tT f L r T) = nI nt ∧ te_p (rd_tT f L r T) = nI np ∧ te_n (rd_tT f L r T) = nI nb ∧
  (M0.2.2 6 0 = (rd_l1 f (rd_t0 f L r)).1 ∧ M0.2.2 6 1 = (rd_l2 f (rd_t0 f L r)).1 ∧ M0.2.2 6 2 = (rd_l3 f (rd_t0 f L r)).1 ∧ M0.2.2 6 3 = (rd_l4 f (rd_t0 f L r)).1 ∧ M0.2.2 6 4 = (rd_l5 f (rd_t0 f L r)).1) ∧
  M0.2.2 6 5 = nI nt ∧ M0.2.2 6 6 = nI np ∧ M0.1 26 = nI nb ∧ cpb M0 (rd_tT f L r T) nb
theorem rd_cr_ln {f : Nat → Int32} {r : q_Rd} {T : q_Te} {B : q_Bk} (h : rd_ok r) (hk : 0 ≤ r.kd ∧ r.kd ≤ 4) : (rd_cr f r T B).ln = r.ln := by
  have o0 := rd_word_ok (f := f) (i := 4) h
  have W : rd_ok (rd_word f r 4) ∧ (rd_word f r 4).ln = (rd_word f r 4).ln ∧ (rd_word f r 4).en ≤ (rd_word f r 4).en := ⟨o0.1, rfl, Nat.le_refl _⟩
  have kw : 0 ≤ (rd_word f r 4).kd ∧ (rd_word f r 4).kd ≤ 4 := rd_word_kd hk
  have W2 := rd_stepT (Y := rd_word f r 4) (rd_c2_tk (f := f) (r := r) (T := T) (B := B)) kw W
  have kw2 := rd_tk_kdY (rd_c2_tk (f := f) (r := r) (T := T) (B := B)) W.1 kw
  have W4 := rd_stepT (Y := rd_word f r 4) (rd_c4_tk (f := f) (r := r) (T := T) (B := B)) kw2 W2
  have W5 := rd_step (Y := rd_word f r 4) (f := f) (X := rd_c5 f r T B) (lo := 1) (hi := 99999) rfl W4
  have W6 := rd_step (Y := rd_word f r 4) (f := f) (X := rd_c6 f r T B) (lo := 0) (hi := 20) rfl W5
  have W7 := rd_step (Y := rd_word f r 4) (f := f) (X := rd_c7 f r T B) (lo := 1) (hi := 5) rfl W6
  have W8 := rd_step (Y := rd_word f r 4) (f := f) (X := rd_c8 f r T B) (lo := 0) (hi := 99999) rfl W7
  have W9 := rd_step (Y := rd_word f r 4) (f := f) (X := rd_c9 f r T B) (lo := 0) (hi := (rd_c7 f r T B).1) rfl W8
  have WA := rd_stepS (Y := rd_word f r 4) (f := f) (X := rd_ca f r T B) rfl W9
  rw [rd_cr_en.2]
  exact WA.2.1.trans o0.2
theorem rd_bl_0 {f : Nat → Int32} (n : Nat) : ∀ k r T, (rd_bl f n k r T).1.ec = 0 → r.ec = 0 := by
  induction n with
  | zero => intro k r T e; exact e
  | succ n ih =>
    intro k r T e
    rw [rd_bl] at e
    split at e
    · have z3 := ih _ _ _ e
      have z2 : (rd_b2 f r).2.ec = 0 := rd_semi_0Y (f := f) (Y := rd_b3 f r) rfl z3
      have z1 : (rd_b1 f r).2.ec = 0 := rd_nb_0Y (f := f) (Y := rd_b2 f r) (lo := 0) (hi := 900) rfl z2
      exact rd_word_0Y (f := f) (i := 1) rfl (rd_nb_0Y (f := f) (Y := rd_b1 f r) (lo := 1) (hi := 99999) rfl z1)
    · exact e
theorem rd_bl_0Y {f : Nat → Int32} {n k : Nat} {r : q_Rd} {T : q_Te} {Y : q_Rd × q_Te} (hy : rd_bl f n k r T = Y) (e : Y.1.ec = 0) : r.ec = 0 := by subst hy; exact rd_bl_0 n k r T e
theorem rd_b5_0 {f : Nat → Int32} {L : Nat} {r : q_Rd} {T : q_Te} (e : (rd_t2 f L r T).1.ec = 0) : (rd_t1 f L r).ec = 0 := rd_bl_0Y (f := f) (n := 4) (k := 0) (r := rd_t1 f L r) (T := te_sN (rd_T1 f L r T) 0) (Y := rd_t2 f L r T) rfl e
theorem rd_bl_ok {f : Nat → Int32} (n : Nat) : ∀ k r T, rd_ok r → rd_ok (rd_bl f n k r T).1 ∧ (rd_bl f n k r T).1.ln = r.ln ∧ (rd_bl f n k r T).1.ct = r.ct := by
  induction n with
  | zero => intro k r T h; exact ⟨h, rfl, rfl⟩
  | succ n ih =>
    intro k r T h
    rw [rd_bl]
    split
    · have h1 := rd_word_ok (f := f) (i := 1) h
      have h2 := rd_nb_ok (f := f) (lo := 1) (hi := 99999) h1.1
      have h3 := rd_nb_ok (f := f) (lo := 0) (hi := 900) h2.1
      have h4 := rd_semi_ok (f := f) h3.1
      have c4 : (rd_b3 f r).ct = r.ct := by unfold rd_b3 rd_b2 rd_b1; rw [rd_semi_ct, rd_nb_ct, rd_nb_ct, rd_word_ct]
      obtain ⟨k1, k2, k3⟩ := ih (k + 1) (rd_b3 f r) (te_ab T k (rd_b1 f r).1 (rd_b2 f r).1) h4.1
      exact ⟨k1, k2.trans (h4.2.trans (h3.2.trans (h2.2.trans h1.2))), k3.trans c4⟩
    · exact ⟨h, rfl, rfl⟩
def rd_K (N : Nat) (C : Int32) (r : q_Rd) : Prop := rd_ok r ∧ r.ln = N ∧ r.ct = C
theorem rd_K.n {f : Nat → Int32} {r : q_Rd} {N : Nat} {C lo hi : Int32} {X : Int32 × q_Rd} (h : rd_K N C r) (hy : rd_nb f r lo hi = X) : rd_K N C X.2 := by
  subst hy
  have := rd_nb_ok (f := f) (lo := lo) (hi := hi) h.1
  exact ⟨this.1, this.2.trans h.2.1, rd_nb_ct.trans h.2.2⟩
theorem rd_K.w {f : Nat → Int32} {r : q_Rd} {N i : Nat} {C : Int32} (h : rd_K N C r) : rd_K N C (rd_word f r i) := by
  have := rd_word_ok (f := f) (i := i) h.1
  exact ⟨this.1, this.2.trans h.2.1, rd_word_ct.trans h.2.2⟩
theorem rd_K.s {f : Nat → Int32} {r X : q_Rd} {N : Nat} {C : Int32} (h : rd_K N C r) (hy : rd_semi f r = X) : rd_K N C X := by
  subst hy
  have := rd_semi_ok (f := f) h.1
  exact ⟨this.1, this.2.trans h.2.1, rd_semi_ct.trans h.2.2⟩
theorem rd_K.b {f : Nat → Int32} {r : q_Rd} {T : q_Te} {N n k : Nat} {C : Int32} {Y : q_Rd × q_Te} (h : rd_K N C r) (hy : rd_bl f n k r T = Y) : rd_K N C Y.1 := by
  subst hy
  have := rd_bl_ok (f := f) n k r T h.1
  exact ⟨this.1, this.2.1.trans h.2.1, this.2.2.trans h.2.2⟩
theorem rd_K.f {f : Nat → Int32} {r X : q_Rd} {N : Nat} {C : Int32} (h : rd_K N C r) (hy : rd_bf f r = X) : rd_K N C X := by
  subst hy
  unfold rd_bf
  split
  · have := rd_fail_ok (c := 3) (p := nI r.st) h.1
    exact ⟨this.1, this.2.trans h.2.1, rd_fail_ct.trans h.2.2⟩
  · exact h
theorem rd_K_0 {f : Nat → Int32} {L : Nat} {r : q_Rd} {X : q_Rd} (hy : rd_tok f (0, -1, 0, L, 0, r.kd, r.st, r.vl, r.na) = X) : rd_K L 0 X := by
  subst hy
  have h := rd_tok_ok (f := f) (r := (0, -1, 0, L, 0, r.kd, r.st, r.vl, r.na)) (Nat.zero_le _)
  exact ⟨h.1, h.2, (rd_tok_ec (f := f) (r := (0, -1, 0, L, 0, r.kd, r.st, r.vl, r.na))).2.2.1⟩
theorem rd_t5_all {f : Nat → Int32} {L : Nat} {r : q_Rd} {T : q_Te} : rd_K L 0 (rd_t5 f L r T) := by
  have h0 : rd_K L 0 (rd_t0 f L r) := rd_K_0 (f := f) (r := r) rfl
  have h1 := h0.w (f := f) (i := 0)
  have h2 : rd_K L 0 (rd_l1 f (rd_t0 f L r)).2 := h1.n (f := f) (lo := 1) (hi := 999999) rfl
  have h3 : rd_K L 0 (rd_l2 f (rd_t0 f L r)).2 := h2.n (f := f) (lo := 1) (hi := 999999) rfl
  have h4 : rd_K L 0 (rd_l3 f (rd_t0 f L r)).2 := h3.n (f := f) (lo := 0) (hi := 200) rfl
  have h5 : rd_K L 0 (rd_l4 f (rd_t0 f L r)).2 := h4.n (f := f) (lo := 0) (hi := 99999) rfl
  have h6 : rd_K L 0 (rd_l5 f (rd_t0 f L r)).2 := h5.n (f := f) (lo := 1) (hi := 99999) rfl
  have h7 : rd_K L 0 (rd_t1 f L r) := h6.s (f := f) rfl
  have h8 : rd_K L 0 (rd_t2 f L r T).1 := h7.b (f := f) (n := 4) (k := 0) (T := te_sN (rd_T1 f L r T) 0) (Y := rd_t2 f L r T) rfl
  have h9 : rd_K L 0 (rd_t2r f L r T) := h8.f (f := f) rfl
  have ha := h9.w (f := f) (i := 2)
  have hb : rd_K L 0 (rd_t3 f L r T).2 := ha.n (f := f) (lo := 1) (hi := 4) rfl
  have hc := hb.s (f := f) (X := rd_semi f (rd_t3 f L r T).2) rfl
  have hd := hc.w (f := f) (i := 3)
  have he : rd_K L 0 (rd_t4 f L r T).2 := hd.n (f := f) (lo := 1) (hi := 24) rfl
  exact he.s (f := f) rfl
theorem rd_t5_ln {f : Nat → Int32} {L : Nat} {r : q_Rd} {T : q_Te} : (rd_t5 f L r T).ln = L := rd_t5_all.2.1
theorem rd_t5_ct {f : Nat → Int32} {L : Nat} {r : q_Rd} {T : q_Te} : (rd_t5 f L r T).ct = 0 := rd_t5_all.2.2
theorem mX9_load {a : Nat} {M : q_Mo} {f : Nat → Int32} {L : Nat} {r : q_Rd} {T : q_Te} {B : q_Bk} {P : Int32 → q_H → Option Nat → Prop} (hM : isM h a M) (hL : L ≤ 900) (hn : M.1 16 = nI L) (htx : ∀ k, k < L → bt (f k) ∧ M.2.2 5 k = f k &&& 255) (hk1 : ¬ (rd_tR f L r T B).ec = 0 → ∀ h2 M2, isM h2 a M2 → q_lf M M2 → M2.1 16 = 0 → M2.1 4 = 0 → M2.1 23 = (rd_tR f L r T B).ea → q_out a 13 h h2 → P (-10 - (rd_tR f L r T B).ec) h2 z) (hk2 : (rd_tR f L r T B).ec = 0 → ∀ h2 M2 f3 f4 r9 nt np nb, ld_ok M M2 f L r T nt np nb → cpB M2 (rd_cl f (rd_tT f L r T) (L + 1) (rd_t5 f L r T) (b_clr B)).2 nt np → q_lf M M2 → M2.1 16 = 0 → M2.1 4 = 0 → M2.1 23 = (rd_tR f L r T B).ea → (∀ c, c < nb → f3 c = M2.2.2 7 (2 * c) ∧ f4 c = M2.2.2 7 (2 * c + 1)) → (∀ i, i < 386 → r9 i = tk_at (M2.2.2 8) (M2.2.2 6 3) i) → isM h2 a (mLr (m34 (tk_S M2) f3 f4) 1 r9) → q_out a 13 h h2 → P (rd_tR f L r T B).ct h2 z) : QMi V iX9_load [.ref a] h z P Kx := by
  have ho : q_out a 13 h h := q_out.refl
  have hloop : ∀ n hh Mk rk Bk, rd_cl f (rd_tT f L r T) n rk Bk = rd_cl f (rd_tT f L r T) (L + 1) (rd_t5 f L r T) (b_clr B) → isM hh a Mk → cpl Mk f rk → q_lf M Mk → Mk.1 16 = 0 → Mk.1 4 = 0 → rk.ln = L → (rk.ec = 0 → L + 1 ≤ n + rk.en ∧ ∃ nt np nb, ld_ok M Mk f L r T nt np nb ∧ cpB Mk Bk nt np ∧ Mk.1 28 = rk.ct) → q_out a 13 h hh → QW V iX9_load 120 [some (.ref a), some (.int (nI 24))] [] hh z 0 0 (q_Ki P) Kx := by
    intro n
    induction n with
    | zero =>
      intro hh Mk rk Bk hrun hM hc LF h16 h4 hln hgood ho
      have hbad : ¬ rk.ec = 0 := fun e => by
        have := (hgood e).1
        have h2 := hc.2.2.2.2.2.1.2
        omega
      have hR : (rd_tR f L r T B) = rk := by unfold rd_tR; rw [← hrun]; rfl
      have hb := rd_fail_b (c := 1) (p := nI rk.st) (rd_bad_ne hbad)
      refine wX9_load_120 ?_
      refine wX9_load_121 ?_
      refine wX9_load_123 hM.c (mX9_isWord (by decide) hM hc ?_)
      refine wX9_load_126 (fun c126 => ?_) (fun c126 => absurd (by rw [rd_is_b hbad]; rfl) c126)
      refine wX9_load_136 ?_
      refine wX9_load_137 hM.c ?_
      refine wX9_load_140 (fun c140 => ?_) (fun c140 => ?_)
      · refine wX9_load_148 ?_
        refine wX9_load_149 hM.c (mX9_isFine hM ?_)
        refine wX9_load_152 (fun c152 => absurd (by rw [decide_eq_false (show ¬ Mk.1 22 = 0 by rw [hc.2.2.2.1]; exact hbad)]; rfl) c152) (fun c152 => ?_)
        refine wX9_load_155 ?_
        refine wX9_load_157 ?_
        refine wX9_load_158 hM.c ?_
        refine wX9_load_161 ?_
        refine wX9_load_162  ?_
        exact q_cv (congrArg (fun x => (-10 : Int32) - x) (show Mk.1 22 = (rd_tR f L r T B).ec by rw [hR]; exact hc.2.2.2.1)) (hk1 (by rw [hR]; exact hbad) _ _ hM LF h16 h4 (show Mk.1 23 = (rd_tR f L r T B).ea by rw [hR]; exact hc.2.2.2.2.1) ho)
      · refine wX9_load_143 ?_
        refine wX9_load_144 ?_
        refine wX9_load_145 hM.c (mX9_fail hM hc (by decide) (fun h2 M2 hM T2 hc2 ho2 => ?_))
        have ho := ho.trans ho2
        rw [hb] at hc2
        refine wX9_load_148 ?_
        refine wX9_load_149 hM.c (mX9_isFine hM ?_)
        refine wX9_load_152 (fun c152 => absurd (by rw [decide_eq_false (show ¬ M2.1 22 = 0 by rw [hc2.2.2.2.1]; exact hbad)]; rfl) c152) (fun c152 => ?_)
        refine wX9_load_155 ?_
        refine wX9_load_157 ?_
        refine wX9_load_158 hM.c ?_
        refine wX9_load_161 ?_
        refine wX9_load_162  ?_
        exact q_cv (congrArg (fun x => (-10 : Int32) - x) (show M2.1 22 = (rd_tR f L r T B).ec by rw [hR]; exact hc2.2.2.2.1)) (hk1 (by rw [hR]; exact hbad) _ _ hM (LF.x T2) ((T2.2 16 (by decide)).trans h16) ((T2.2 4 (by decide)).trans h4) (show M2.1 23 = (rd_tR f L r T B).ea by rw [hR]; exact hc2.2.2.2.2.1) ho)
    | succ n ih =>
      intro hh Mk rk Bk hrun hM hc LF h16 h4 hln hgood ho
      by_cases hbad : rk.ec = 0
      · obtain ⟨hfuel, nt, np, nb, hld, hB, h28k⟩ := hgood hbad
        have hld0 := hld
        obtain ⟨hnt, hnp, hnb1, htt, htp, htn, hdl, hd5, hd6, h26, hcb⟩ := hld
        have hnb : nb ≤ 4 := hnb1.2
        have hkd := hc.2.2.2.2.2.2.1
        have tk0 := hc.2.2.2.2.2.2.2 hbad
        refine wX9_load_120 ?_
        refine wX9_load_121 ?_
        refine wX9_load_123 hM.c (mX9_isWord (by decide) hM hc ?_)
        refine wX9_load_126 (fun c126 => ?_) (fun c126 => ?_)
        · refine wX9_load_136 ?_
          refine wX9_load_137 hM.c ?_
          refine wX9_load_140 (fun c140 => ?_) (fun c140 => ?_)
          · have hw := q_b0 c126
            have k0 : rk.kd = 0 := (tkm_inj hkd).2.2.2.mp (tk0.2.2.1.symm.trans (show Mk.1 20 = 0 from c140))
            have hR2 : rd_cl f (rd_tT f L r T) (L + 1) (rd_t5 f L r T) (b_clr B) = (rk, Bk) := by rw [← hrun]; exact rd_cl_stop (Or.inr k0)
            have hR : (rd_tR f L r T B) = rk := by unfold rd_tR; rw [hR2]
            have hB9 : (rd_cl f (rd_tT f L r T) (L + 1) (rd_t5 f L r T) (b_clr B)).2 = Bk := by rw [hR2]
            have f22 : Mk.1 22 = 0 := hc.2.2.2.1.trans hbad
            have h26b := h26
            refine wX9_load_148 ?_
            refine wX9_load_149 hM.c (mX9_isFine hM ?_)
            refine wX9_load_152 (fun c152 => ?_) (fun c152 => absurd c152 (by rw [decide_eq_true f22]; decide))
            refine wX9_load_163 ?_
            refine wX9_load_164 hM.c (mX9_takeOver hM hnb h26 (fun h2 f3 f4 r9 hf hrow hM ho2 => ?_))
            have ho := ho.trans ho2
            refine wX9_load_167 ?_
            refine wX9_load_168 hM.c ?_
            refine wX9_load_171  ?_
            refine q_cv (show Mk.1 28 = (rd_tR f L r T B).ct by rw [hR]; exact h28k) (hk2 (by rw [hR]; exact hbad) _ Mk f3 f4 r9 nt np nb hld0 (by rw [hB9]; exact hB) LF h16 h4 (show Mk.1 23 = (rd_tR f L r T B).ea by rw [hR]; exact hc.2.2.2.2.1) hf hrow hM ho)
          · refine wX9_load_143 ?_
            refine wX9_load_144 ?_
            refine wX9_load_145 hM.c (mX9_fail hM hc (by decide) (fun h2 M2 hM T2 hc2 ho2 => ?_))
            have ho := ho.trans ho2
            have hw := q_b0 c126
            obtain ⟨b1, b2, b3⟩ := rd_cr_bad (f := f) (r := rk) (T := (rd_tT f L r T)) (B := Bk) hw
            have k0 : ¬ rk.kd = 0 := fun e => c140 (show Mk.1 20 = 0 from tk0.2.2.1.trans ((tkm_inj hkd).2.2.2.mpr e))
            have hR2 : rd_cl f (rd_tT f L r T) (L + 1) (rd_t5 f L r T) (b_clr B) = (rd_cr f rk (rd_tT f L r T) Bk, rd_cB f rk (rd_tT f L r T) Bk) := by
              rw [← hrun, rd_cl, if_neg (fun z => z.elim (fun z => by rw [rd_bad_e hbad] at z; cases z) k0)]; exact rd_cl_stop (Or.inl b3)
            have hR : (rd_tR f L r T B) = rd_cr f rk (rd_tT f L r T) Bk := by unfold rd_tR; rw [hR2]
            refine wX9_load_148 ?_
            refine wX9_load_149 hM.c (mX9_isFine hM ?_)
            refine wX9_load_152 (fun c152 => absurd (by rw [decide_eq_false (show ¬ M2.1 22 = 0 by rw [hc2.2.2.2.1]; exact rd_fail_ne (by decide))]; rfl) c152) (fun c152 => ?_)
            refine wX9_load_155 ?_
            refine wX9_load_157 ?_
            refine wX9_load_158 hM.c ?_
            refine wX9_load_161 ?_
            refine wX9_load_162  ?_
            exact q_cv (congrArg (fun x => (-10 : Int32) - x) (show M2.1 22 = (rd_tR f L r T B).ec by rw [hR, b1]; exact hc2.2.2.2.1)) (hk1 (by rw [hR]; exact b3) _ _ hM (LF.x T2) ((T2.2 16 (by decide)).trans h16) ((T2.2 4 (by decide)).trans h4) (show M2.1 23 = (rd_tR f L r T B).ea by rw [hR, b2]; exact hc2.2.2.2.2.1) ho)
        · have hw := q_b1 c126
          refine wX9_load_129 ?_
          refine wX9_load_130 hM.c (mX9_readContract hM hc hw hnt hnp htt htp hd5 hd6 hB h28k (fun h2 M2 hM TZ hc2 hB2 ho2 => ?_))
          have ho := ho.trans ho2
          refine wX9_load_133 ?_
          have hcr := rd_cr_mono (f := f) (r := rk) (T := (rd_tT f L r T)) (B := Bk) hc.2.2.2.2.2.1 hkd hw
          have kd1 : rk.kd = 1 := (of_decide_eq_true hw).2.1
          have hr2 : rd_cl f (rd_tT f L r T) n (rd_cr f rk (rd_tT f L r T) Bk) (rd_cB f rk (rd_tT f L r T) Bk) = rd_cl f (rd_tT f L r T) (L + 1) (rd_t5 f L r T) (b_clr B) := by
            rw [← hrun, rd_cl, if_neg (fun z => z.elim (fun z => by rw [rd_bad_e hbad] at z; cases z) (fun z => by rw [kd1] at z; exact absurd z (by decide)))]
          have hg := fun (k j : Nat) (hk : ¬ k = 8) => TZ.g (k := k) hk j
          have hln2 : (rd_cr f rk (rd_tT f L r T) Bk).ln = L := (rd_cr_ln hc.2.2.2.2.2.1 hkd).trans hln
          refine ih _ M2 (rd_cr f rk (rd_tT f L r T) Bk) (rd_cB f rk (rd_tT f L r T) Bk) hr2 hM hc2 (LF.zz TZ (by decide) (by decide)) ((TZ.2.2 16 (by decide) (by decide)).trans h16) ((TZ.2.2 4 (by decide) (by decide)).trans h4) hln2 (fun e => ?_) ho
          obtain ⟨g1, g2⟩ := hB2 e
          obtain ⟨g3, g4⟩ := hcr e
          refine ⟨by omega, nt, np, nb, ⟨hnt, hnp, hnb1, htt, htp, htn, ?_, (hg 6 5 (by decide)).trans hd5, (hg 6 6 (by decide)).trans hd6, (TZ.2.2 26 (by decide) (by decide)).trans h26, ?_⟩, g1, g2⟩
          · exact ⟨(hg 6 0 (by decide)).trans hdl.1, (hg 6 1 (by decide)).trans hdl.2.1, (hg 6 2 (by decide)).trans hdl.2.2.1, (hg 6 3 (by decide)).trans hdl.2.2.2.1, (hg 6 4 (by decide)).trans hdl.2.2.2.2⟩
          · exact fun b hb => ⟨(hg 7 (2 * b) (by decide)).trans (hcb b hb).1, (hg 7 (2 * b + 1) (by decide)).trans (hcb b hb).2.1, (hcb b hb).2.2⟩
      · have hR : (rd_tR f L r T B) = rk := by unfold rd_tR; rw [← hrun, rd_cl_stop (Or.inl hbad)]
        have hb := rd_fail_b (c := 1) (p := nI rk.st) (rd_bad_ne hbad)
        refine wX9_load_120 ?_
        refine wX9_load_121 ?_
        refine wX9_load_123 hM.c (mX9_isWord (by decide) hM hc ?_)
        refine wX9_load_126 (fun c126 => ?_) (fun c126 => absurd (by rw [rd_is_b hbad]; rfl) c126)
        refine wX9_load_136 ?_
        refine wX9_load_137 hM.c ?_
        refine wX9_load_140 (fun c140 => ?_) (fun c140 => ?_)
        · refine wX9_load_148 ?_
          refine wX9_load_149 hM.c (mX9_isFine hM ?_)
          refine wX9_load_152 (fun c152 => absurd (by rw [decide_eq_false (show ¬ Mk.1 22 = 0 by rw [hc.2.2.2.1]; exact hbad)]; rfl) c152) (fun c152 => ?_)
          refine wX9_load_155 ?_
          refine wX9_load_157 ?_
          refine wX9_load_158 hM.c ?_
          refine wX9_load_161 ?_
          refine wX9_load_162  ?_
          exact q_cv (congrArg (fun x => (-10 : Int32) - x) (show Mk.1 22 = (rd_tR f L r T B).ec by rw [hR]; exact hc.2.2.2.1)) (hk1 (by rw [hR]; exact hbad) _ _ hM LF h16 h4 (show Mk.1 23 = (rd_tR f L r T B).ea by rw [hR]; exact hc.2.2.2.2.1) ho)
        · refine wX9_load_143 ?_
          refine wX9_load_144 ?_
          refine wX9_load_145 hM.c (mX9_fail hM hc (by decide) (fun h2 M2 hM T2 hc2 ho2 => ?_))
          have ho := ho.trans ho2
          rw [hb] at hc2
          refine wX9_load_148 ?_
          refine wX9_load_149 hM.c (mX9_isFine hM ?_)
          refine wX9_load_152 (fun c152 => absurd (by rw [decide_eq_false (show ¬ M2.1 22 = 0 by rw [hc2.2.2.2.1]; exact hbad)]; rfl) c152) (fun c152 => ?_)
          refine wX9_load_155 ?_
          refine wX9_load_157 ?_
          refine wX9_load_158 hM.c ?_
          refine wX9_load_161 ?_
          refine wX9_load_162  ?_
          exact q_cv (congrArg (fun x => (-10 : Int32) - x) (show M2.1 22 = (rd_tR f L r T B).ec by rw [hR]; exact hc2.2.2.2.1)) (hk1 (by rw [hR]; exact hbad) _ _ hM (LF.x T2) ((T2.2 16 (by decide)).trans h16) ((T2.2 4 (by decide)).trans h4) (show M2.1 23 = (rd_tR f L r T B).ea by rw [hR]; exact hc2.2.2.2.2.1) ho)
  refine eX9_load ?_
  refine wX9_load_0 ?_
  refine wX9_load_1 ?_
  refine wX9_load_2 hM.c ?_
  refine q_sx (k := 4) hM ho (fun h2 hM ho => ?_)
  refine wX9_load_5 ?_
  refine wX9_load_6 ?_
  refine wX9_load_7 hM.c ?_
  refine wX9_load_10 hM.c ?_
  refine q_sx (k := 17) hM ho (fun h2 hM ho => ?_)
  refine wX9_load_13 ?_
  refine wX9_load_14 ?_
  refine wX9_load_15 hM.c ?_
  refine q_sx (k := 16) hM ho (fun h2 hM ho => ?_)
  refine wX9_load_18 ?_
  refine wX9_load_19 ?_
  refine wX9_load_20 hM.c ?_
  refine q_sx (k := 18) hM ho (fun h2 hM ho => ?_)
  refine wX9_load_23 ?_
  refine wX9_load_24 ?_
  refine wX9_load_25 hM.c ?_
  refine q_sx (k := 22) hM ho (fun h2 hM ho => ?_)
  refine wX9_load_28 ?_
  refine wX9_load_29 ?_
  refine wX9_load_30 hM.c ?_
  refine q_sx (k := 23) hM ho (fun h2 hM ho => ?_)
  refine wX9_load_33 ?_
  refine wX9_load_34 ?_
  refine wX9_load_35 hM.c ?_
  refine q_sx (k := 28) hM ho (fun h2 hM ho => ?_)
  refine wX9_load_38 ?_
  refine wX9_load_39 ?_
  have hM : isM h2 a (mS (mS (mS (mS (mS (mS (mS M 4 0) 17 (M.1 16)) 16 0) 18 0) 22 0) 23 (-1)) 28 0) := hM
  refine q_for (P := fun p => ∀ hh g, (∀ q, q < p → g (9 * q) = -1) → isM hh a (mIr (mS (mS (mS (mS (mS (mS (mS M 4 0) 17 (M.1 16)) 16 0) 18 0) 22 0) 23 (-1)) 28 0) 8 g) → q_out a 13 h hh → QW V iX9_load 40 [some (.ref a), some (.int (nI p))] [] hh z 0 0 (q_Ki P) Kx) 24 ?_ ?_ _ _ (fun q hq => absurd hq (by omega)) (hM.e mIr_i.symm) ho
  · intro hh g hg hM ho
    have LF : q_lf M (mIr (mS (mS (mS (mS (mS (mS (mS M 4 0) 17 (M.1 16)) 16 0) 18 0) 22 0) 23 (-1)) 28 0) 8 g) := (((((((q_lf.s (k := 4) ⟨rfl, fun _ _ => rfl, fun _ _ _ => rfl⟩ (Or.inl rfl)).s (Or.inr (by decide))).s (Or.inr (by decide))).s (Or.inr (by decide))).s (Or.inr (by decide))).s (Or.inr (by decide))).s (Or.inr (by decide))).i (by decide)
    have h16 : (mIr (mS (mS (mS (mS (mS (mS (mS M 4 0) 17 (M.1 16)) 16 0) 18 0) 22 0) 23 (-1)) 28 0) 8 g).1 16 = 0 := rfl
    have h4 : (mIr (mS (mS (mS (mS (mS (mS (mS M 4 0) 17 (M.1 16)) 16 0) 18 0) 22 0) 23 (-1)) 28 0) 8 g).1 4 = 0 := rfl
    have h28 : (mIr (mS (mS (mS (mS (mS (mS (mS M 4 0) 17 (M.1 16)) 16 0) 18 0) 22 0) 23 (-1)) 28 0) 8 g).1 28 = 0 := rfl
    have hD : ∀ p, p < 24 → (mIr (mS (mS (mS (mS (mS (mS (mS M 4 0) 17 (M.1 16)) 16 0) 18 0) 22 0) 23 (-1)) 28 0) 8 g).2.2 8 (9 * p) = -1 := hg
    have hc0 : cpl0 (mIr (mS (mS (mS (mS (mS (mS (mS M 4 0) 17 (M.1 16)) 16 0) 18 0) 22 0) 23 (-1)) 28 0) 8 g) f (0, -1, 0, L, 0, r.kd, r.st, r.vl, r.na) := ⟨hL, htx, hn, rfl, rfl, Nat.zero_le _, fun _ => rfl⟩
    refine wX9_load_40 ?_
    refine wX9_load_41 ?_
    refine wX9_load_43 (fun c43 => ?_) (fun c43 => absurd (by decide) c43)
    refine wX9_load_62 ?_
    refine wX9_load_63 hM.c (mX9_next0 hM hc0 (fun h2 Mn hM Tn hc ho2 => ?_))
    have ho := ho.trans ho2
    have LF := LF.x Tn
    have h16 := (Tn.2 16 (by decide)).trans h16
    have h4 := (Tn.2 4 (by decide)).trans h4
    have h28 := (Tn.2 28 (by decide)).trans h28
    have hD := fun p hp => (Tn.g 8 (9 * p)).trans (hD p hp)
    refine wX9_load_66 ?_
    refine wX9_load_67 hM.c (mX9_readLeague hM hc (fun h2 Ml hM Tl hc hl5 ho2 => ?_))
    have ho := ho.trans ho2
    have LF := LF.zz Tl (by decide) (by decide)
    have h16 := (Tl.2.2 16 (by decide) (by decide)).trans h16
    have h4 := (Tl.2.2 4 (by decide) (by decide)).trans h4
    have h28 := (Tl.2.2 28 (by decide) (by decide)).trans h28
    have hD := fun p hp => (Tl.g (by decide) (9 * p)).trans (hD p hp)
    have hc : cpl Ml f (rd_t1 f L r) := hc
    refine wX9_load_70 ?_
    refine wX9_load_71 hM.c (mX9_readBracketsY (T := rd_T1 f L r T) (Y := rd_t2 f L r T) (Z := rd_t2r f L r T) rfl rfl hM hc (fun h2 Mb hM Tb hc hbr ho2 => ?_))
    have ho := ho.trans ho2
    have LF := LF.zz Tb (by decide) (by decide)
    have h16 := (Tb.2.2 16 (by decide) (by decide)).trans h16
    have h4 := (Tb.2.2 4 (by decide) (by decide)).trans h4
    have h28 := (Tb.2.2 28 (by decide) (by decide)).trans h28
    have hD := fun p hp => (Tb.g (by decide) (9 * p)).trans (hD p hp)
    have d6 := fun j => Tb.g (k := 6) (by decide) j
    have h26 : Mb.1 26 = Mb.1 26 := rfl
    have b7 : ∀ j, Mb.2.2 7 j = Mb.2.2 7 j := fun j => rfl
    refine wX9_load_74 ?_
    refine wX9_load_75 ?_
    refine wX9_load_77 hM.c (mX9_expect (by decide) hM hc (fun h2 Me hM Te hc ho2 => ?_))
    have ho := ho.trans ho2
    have LF := LF.x Te
    have h16 := (Te.2 16 (by decide)).trans h16
    have h4 := (Te.2 4 (by decide)).trans h4
    have h28 := (Te.2 28 (by decide)).trans h28
    have h26 := (Te.2 26 (by decide)).trans h26
    have hD := fun p hp => (Te.g 8 (9 * p)).trans (hD p hp)
    have b7 := fun j => (Te.g 7 j).trans (b7 j)
    have d6 := fun j => (Te.g 6 j).trans (d6 j)
    refine wX9_load_80 ?_
    refine wX9_load_81 hM.c ?_
    refine wX9_load_84 ?_
    refine wX9_load_85 ?_
    refine wX9_load_86 ?_
    refine wX9_load_87 ?_
    refine wX9_load_88 hM.c (mX9_readY (Y := rd_t3 f L r T) rfl hM hc (fun h2 Mt vt hM Tt hc hvt ho2 => ?_))
    have ho := ho.trans ho2
    have LF := LF.x Tt
    have h16 := (Tt.2 16 (by decide)).trans h16
    have h4 := (Tt.2 4 (by decide)).trans h4
    have h28 := (Tt.2 28 (by decide)).trans h28
    have h26 := (Tt.2 26 (by decide)).trans h26
    have hD := fun p hp => (Tt.g 8 (9 * p)).trans (hD p hp)
    have b7 := fun j => (Tt.g 7 j).trans (b7 j)
    have d6 := fun j => (Tt.g 6 j).trans (d6 j)
    refine wX9_load_91 hM.a6 (j := 5) rfl (by decide) (by decide) ?_
    refine q_nI (k := 6) (by decide) hM ho (fun h2 hM ho => ?_)
    have hc := cpl_i (k := 6) (g := upd (Mt.2.2 6) 5 vt) hc (by decide)
    have LF := LF.i (k := 6) (g := upd (Mt.2.2 6) 5 vt) (by decide)
    have d5 : (mIr Mt 6 (upd (Mt.2.2 6) 5 vt)).2.2 6 5 = vt := (show upd (Mt.2.2 6) 5 vt 5 = vt from upd_s)
    have d6 : ∀ j, j < 5 → (mIr Mt 6 (upd (Mt.2.2 6) 5 vt)).2.2 6 j = Ml.2.2 6 j := fun j hj => (show upd (Mt.2.2 6) 5 vt j = _ from (upd_n (by omega)).trans (d6 j))
    have hD : ∀ p, p < 24 → (mIr Mt 6 (upd (Mt.2.2 6) 5 vt)).2.2 8 (9 * p) = -1 := hD
    have b7 : ∀ j, (mIr Mt 6 (upd (Mt.2.2 6) 5 vt)).2.2 7 j = Mb.2.2 7 j := b7
    have h26 : (mIr Mt 6 (upd (Mt.2.2 6) 5 vt)).1 26 = Mb.1 26 := h26
    have h16 : (mIr Mt 6 (upd (Mt.2.2 6) 5 vt)).1 16 = 0 := h16
    have h4 : (mIr Mt 6 (upd (Mt.2.2 6) 5 vt)).1 4 = 0 := h4
    have h28 : (mIr Mt 6 (upd (Mt.2.2 6) 5 vt)).1 28 = 0 := h28
    refine wX9_load_92 ?_
    refine wX9_load_93 hM.c (mX9_expectSemicolon hM hc (fun h2 Ms hM Ts hc ho2 => ?_))
    have ho := ho.trans ho2
    have LF := LF.x Ts
    have h16 := (Ts.2 16 (by decide)).trans h16
    have h4 := (Ts.2 4 (by decide)).trans h4
    have h28 := (Ts.2 28 (by decide)).trans h28
    have h26 := (Ts.2 26 (by decide)).trans h26
    have hD := fun p hp => (Ts.g 8 (9 * p)).trans (hD p hp)
    have b7 := fun j => (Ts.g 7 j).trans (b7 j)
    have d5 := (Ts.g 6 5).trans d5
    have d6 := fun j hj => (Ts.g 6 j).trans (d6 j hj)
    refine wX9_load_96 ?_
    refine wX9_load_97 ?_
    refine wX9_load_99 hM.c (mX9_expect (by decide) hM hc (fun h2 Mf hM Tf hc ho2 => ?_))
    have ho := ho.trans ho2
    have LF := LF.x Tf
    have h16 := (Tf.2 16 (by decide)).trans h16
    have h4 := (Tf.2 4 (by decide)).trans h4
    have h28 := (Tf.2 28 (by decide)).trans h28
    have h26 := (Tf.2 26 (by decide)).trans h26
    have hD := fun p hp => (Tf.g 8 (9 * p)).trans (hD p hp)
    have b7 := fun j => (Tf.g 7 j).trans (b7 j)
    have d5 := (Tf.g 6 5).trans d5
    have d6 := fun j hj => (Tf.g 6 j).trans (d6 j hj)
    refine wX9_load_102 ?_
    refine wX9_load_103 hM.c ?_
    refine wX9_load_106 ?_
    refine wX9_load_108 ?_
    refine wX9_load_109 ?_
    refine wX9_load_110 ?_
    refine wX9_load_112 hM.c (mX9_readY (Y := rd_t4 f L r T) rfl hM hc (fun h2 Mp vp hM Tp hc hvp ho2 => ?_))
    have ho := ho.trans ho2
    have LF := LF.x Tp
    have h16 := (Tp.2 16 (by decide)).trans h16
    have h4 := (Tp.2 4 (by decide)).trans h4
    have h28 := (Tp.2 28 (by decide)).trans h28
    have h26 := (Tp.2 26 (by decide)).trans h26
    have hD := fun p hp => (Tp.g 8 (9 * p)).trans (hD p hp)
    have b7 := fun j => (Tp.g 7 j).trans (b7 j)
    have d5 := (Tp.g 6 5).trans d5
    have d6 := fun j hj => (Tp.g 6 j).trans (d6 j hj)
    refine wX9_load_115 hM.a6 (j := 6) rfl (by decide) (by decide) ?_
    refine q_nI (k := 6) (by decide) hM ho (fun h2 hM ho => ?_)
    have hc := cpl_i (k := 6) (g := (upd (Mp.2.2 6) 6 vp)) hc (by decide)
    have LF := LF.i (k := 6) (g := (upd (Mp.2.2 6) 6 vp)) (by decide)
    have dp : (mIr Mp 6 (upd (Mp.2.2 6) 6 vp)).2.2 6 6 = vp := (show (upd (Mp.2.2 6) 6 vp) 6 = vp from upd_s)
    have d5 : (mIr Mp 6 (upd (Mp.2.2 6) 6 vp)).2.2 6 5 = vt := (show (upd (Mp.2.2 6) 6 vp) 5 = vt from (upd_n (by omega)).trans d5)
    have d6 : ∀ j, j < 5 → (mIr Mp 6 (upd (Mp.2.2 6) 6 vp)).2.2 6 j = Ml.2.2 6 j := fun j hj => (show (upd (Mp.2.2 6) 6 vp) j = _ from (upd_n (by omega)).trans (d6 j hj))
    have hD : ∀ p, p < 24 → (mIr Mp 6 (upd (Mp.2.2 6) 6 vp)).2.2 8 (9 * p) = -1 := hD
    have b7 : ∀ j, (mIr Mp 6 (upd (Mp.2.2 6) 6 vp)).2.2 7 j = Mb.2.2 7 j := b7
    have h26 : (mIr Mp 6 (upd (Mp.2.2 6) 6 vp)).1 26 = Mb.1 26 := h26
    have h16 : (mIr Mp 6 (upd (Mp.2.2 6) 6 vp)).1 16 = 0 := h16
    have h4 : (mIr Mp 6 (upd (Mp.2.2 6) 6 vp)).1 4 = 0 := h4
    have h28 : (mIr Mp 6 (upd (Mp.2.2 6) 6 vp)).1 28 = 0 := h28
    refine wX9_load_116 ?_
    refine wX9_load_117 hM.c (mX9_semiY (Y := rd_t5 f L r T) rfl hM hc (fun h2 M0 hM T0 hc ho2 => ?_))
    have ho := ho.trans ho2
    have LF := LF.x T0
    have h16 := (T0.2 16 (by decide)).trans h16
    have h4 := (T0.2 4 (by decide)).trans h4
    have h28 := (T0.2 28 (by decide)).trans h28
    have h26 := (T0.2 26 (by decide)).trans h26
    have hD := fun p hp => (T0.g 8 (9 * p)).trans (hD p hp)
    have b7 := fun j => (T0.g 7 j).trans (b7 j)
    have d5 := (T0.g 6 5).trans d5
    have dp := (T0.g 6 6).trans dp
    have d6 := fun j hj => (T0.g 6 j).trans (d6 j hj)
    have r3 : 1 ≤ (rd_t3 f L r T).1 ∧ (rd_t3 f L r T).1 ≤ 4 := rd_nb_inY (f := f) (Y := rd_t3 f L r T) rfl (by decide)
    have r4 : 1 ≤ (rd_t4 f L r T).1 ∧ (rd_t4 f L r T).1 ≤ 24 := rd_nb_inY (f := f) (Y := rd_t4 f L r T) rfl (by decide)
    obtain ⟨nt, hnt4, ent⟩ := nI_of2 (M := 4) (n := 4) rfl (fun z => absurd (Int32.lt_of_le_of_lt r3.1 z) (by decide)) r3.2
    obtain ⟨np, hnp4, enp⟩ := nI_of2 (M := 24) (n := 24) rfl (fun z => absurd (Int32.lt_of_le_of_lt r4.1 z) (by decide)) r4.2
    have nt1 : 1 ≤ nt := by
      have q := r3.1
      rw [ent] at q
      exact Nat.pos_of_ne_zero (fun e => by subst e; exact absurd q (by decide))
    have np1 : 1 ≤ np := by
      have q := r4.1
      rw [enp] at q
      exact Nat.pos_of_ne_zero (fun e => by subst e; exact absurd q (by decide))
    refine hloop (L + 1) _ _ (rd_t5 f L r T) (b_clr B) rfl hM hc LF h16 h4 rd_t5_ln (fun e => ?_) ho
    have z4 : (rd_t4 f L r T).2.ec = 0 := rd_semi_0Y (f := f) (Y := rd_t5 f L r T) rfl e
    have zw : (rd_word f (rd_semi f (rd_t3 f L r T).2) 3).ec = 0 := rd_nb_0Y (f := f) (Y := rd_t4 f L r T) (lo := 1) (hi := 24) rfl z4
    have z3 : (rd_t3 f L r T).2.ec = 0 := rd_semi_0Y (f := f) rfl (rd_word_0Y (f := f) rfl zw)
    have z2 : (rd_t2r f L r T).ec = 0 := rd_word_0Y (f := f) rfl (rd_nb_0Y (f := f) (Y := rd_t3 f L r T) (lo := 1) (hi := 4) rfl z3)
    obtain ⟨eb, nb, hb1, hb4, h26b, htn, hcb⟩ := hbr z2
    have z1 : (rd_t1 f L r).ec = 0 := (rd_b5_0 (by rw [eb] at z2; exact z2))
    have hl := hl5 z1
    have hTT := rd_tT_p (f := f) (L := L) (r := r) (T := T)
    have q1 : te_t (rd_tT f L r T) = nI nt := hTT.1.trans ent
    have q2 : te_p (rd_tT f L r T) = nI np := hTT.2.1.trans enp
    have q3 : te_n (rd_tT f L r T) = nI nb := hTT.2.2.1.trans htn
    have q4 := d5.trans ((hvt z3).trans ent)
    have q5 := dp.trans ((hvp z4).trans enp)
    have q6 := cpb_mv hcb hTT.2.2.2.1 hTT.2.2.2.2.1 b7
    have q7 := h26.trans h26b
    have q8 : L + 1 ≤ L + 1 + (rd_t5 f L r T).en := Nat.le_add_right _ _
    have q9 := h28.trans (rd_t5_ct (f := f) (L := L) (r := r) (T := T)).symm
    refine ⟨q8, nt, np, nb, ⟨⟨nt1, hnt4⟩, ⟨np1, hnp4⟩, ⟨hb1, hb4⟩, q1, q2, q3, ?_, q4, q5, q7, q6⟩, ⟨fun p hp => ⟨hD p hp, rfl, rfl, fun z => absurd z (show ¬ (decide (¬ (-1 : Int32) = -1)) = true by decide)⟩, fun j hj => ⟨0, by omega, ?_⟩, rfl⟩, q9⟩
    · exact ⟨(d6 0 (by decide)).trans hl.1, (d6 1 (by decide)).trans hl.2.1, (d6 2 (by decide)).trans hl.2.2.1, (d6 3 (by decide)).trans hl.2.2.2.1, (d6 4 (by decide)).trans hl.2.2.2.2⟩
    · exact (q_ac_c (g := fun _ => 0) (fun k hk => by rw [hD k hk, if_neg (fun z => (by decide : ∀ j, j < 4 → ¬ -1 = nI j) j (by omega) z)])).trans (by decide)
  · intro p hkn ih hh g hg hM ho
    refine wX9_load_40 ?_
    refine wX9_load_41 ?_
    refine wX9_load_43 (fun c43 => absurd c43 (nI_ge (b := 24) hkn (by decide))) (fun c43 => ?_)
    refine wX9_load_46 ?_
    refine wX9_load_47 hM.c ?_
    refine wX9_load_50 ?_
    refine wX9_load_52 ?_
    refine wX9_load_53 ?_
    refine wX9_load_54 ?_
    refine wX9_load_55 hM.a8 (show (9 : Int32) * nI p = nI (9 * p) from nI_mul 9 p) (show 9 * p < 216 by omega) (by decide) ?_
    refine q_nI (k := 8) (by decide) hM ho (fun h2 hM ho => ?_)
    refine wX9_load_56 ?_
    refine wX9_load_59 ?_
    refine q_ls ?_ (ih _ (upd g (9 * p) (-1)) (fun q hq => ?_) (hM.e mIr_2) ho)
    · rw [nI_1]
    · rw [upd_at]
      by_cases e : q = p
      · rw [if_pos (by rw [e])]
      · rw [if_neg (by omega)]; exact hg q (by omega)
end CX9m

/-! SalaryCapLedgerModel: changes of the row, remembering, trades -/
section CX9b
variable {V : q_En} {h : q_H} {z : Option Nat} {Kx : q_KX}
theorem mLr_2 {M : q_Mo} {k : Nat} {f g : Nat → Int64} : mLr (mLr M k f) k g = mLr M k g := congrArg (fun q => (M.1, q, M.2.2)) (funext fun q => by by_cases e : q = k <;> simp [e])
theorem mIr_2 {M : q_Mo} {k : Nat} {f g : Nat → Int32} : mIr (mIr M k f) k g = mIr M k g := congrArg (fun q => (M.1, M.2.1, q)) (funext fun q => by by_cases e : q = k <;> simp [e])
theorem mLr_i {M : q_Mo} {k : Nat} : mLr M k (M.2.1 k) = M := congrArg (fun q => (M.1, q, M.2.2)) (funext fun q => by by_cases e : q = k <;> simp [e])
theorem mIr_i {M : q_Mo} {k : Nat} : mIr M k (M.2.2 k) = M := congrArg (fun q => (M.1, M.2.1, q)) (funext fun q => by by_cases e : q = k <;> simp [e])
theorem upd_2 {f : Nat → Int32} {k : Nat} {x y : Int32} : upd (upd f k x) k y = upd f k y := funext fun q => by unfold upd; by_cases e : q = k <;> simp [e]
theorem upd_i {f : Nat → Int32} {k : Nat} : upd f k (f k) = f := funext fun q => by unfold upd; by_cases e : q = k <;> simp [e]
theorem mS_2 {M : q_Mo} {k : Nat} {x y : Int32} : mS (mS M k x) k y = mS M k y := congrArg (fun q => (q, M.2)) upd_2
theorem nI_leq {N : Int32} {n k : Nat} (e : N = nI n) (h : n ≤ k) (hk : k < 2147483648) : N ≤ nI k := by rw [e]; exact nI_le h hk
theorem nI_geq {N : Int32} {n k : Nat} (e : N = nI n) (h : k < n) (hn : n < 2147483648) : ¬ N ≤ nI k := by rw [e]; exact nI_ge h hn
theorem isM.r {a : Nat} {M : q_Mo} (hM : isM h a M) : isM h a (mLr M 1 (m_r M)) := hM.e mLr_i.symm
/-- a player's, a team's place of a row set -/
def rp (r : Nat → Int64) (p w : Nat) (v : Int32) : Nat → Int64 := vp_updL r (6 + 10 * p + w) v.toInt64
def ra (r : Nat → Int64) (t w : Nat) (x : Int64) : Nat → Int64 := vp_updL r (246 + 35 * t + w) (r_ot r t w + x)
theorem rp_op {r : Nat → Int64} {p w q u : Nat} {v : Int32} (hw : w < 10) (hu : u < 10) : r_op (rp r p w v) q u = if q = p ∧ u = w then v else r_op r q u := by
  unfold r_op rp vp_updL
  by_cases e : q = p ∧ u = w
  · rw [if_pos (by omega), if_pos e, Int32.toInt32_toInt64]
  · rw [if_neg (by omega), if_neg e]
theorem ra_op {r : Nat → Int64} {t w q u : Nat} {x : Int64} (hq : q < 24) (hu : u < 10) : r_op (ra r t w x) q u = r_op r q u := by
  unfold r_op ra vp_updL; rw [if_neg (by omega)]
theorem rp_ot {r : Nat → Int64} {p w t u : Nat} {v : Int32} (hp : p < 24) (hw : w < 10) : r_ot (rp r p w v) t u = r_ot r t u := by
  unfold r_ot rp vp_updL; rw [if_neg (by omega)]
theorem ra_ot {r : Nat → Int64} {t w s u : Nat} {x : Int64} (hw : w < 35) (hu : u < 35) : r_ot (ra r t w x) s u = if s = t ∧ u = w then r_ot r t w + x else r_ot r s u := by
  unfold r_ot ra vp_updL
  by_cases e : s = t ∧ u = w
  · rw [if_pos (by omega), if_pos e]; try rfl
  · rw [if_neg (by omega), if_neg e]
theorem rp_nw {r : Nat → Int64} {p w : Nat} {v : Int32} : r_nw (rp r p w v) = r_nw r := by unfold r_nw rp vp_updL; rw [if_neg (by omega)]
theorem ra_nw {r : Nat → Int64} {t w : Nat} {x : Int64} : r_nw (ra r t w x) = r_nw r := by unfold r_nw ra vp_updL; rw [if_neg (by omega)]
theorem rp_oo {r : Nat → Int64} {p w u : Nat} {v : Int32} (hu : u < 5) : r_oo (rp r p w v) u = r_oo r u := by unfold r_oo rp vp_updL; rw [if_neg (by omega)]
theorem ra_oo {r : Nat → Int64} {t w u : Nat} {x : Int64} (hu : u < 5) : r_oo (ra r t w x) u = r_oo r u := by unfold r_oo ra vp_updL; rw [if_neg (by omega)]
def mo_th (M : q_Mo) (g : Bool) : Int32 := if M.1 3 = 0 then 1 else if g then 0 else 2
theorem mX9_isWrong {a : Nat} {M : q_Mo} {g : Bool} {x : Int32} {P : Int32 → q_H → Option Nat → Prop} (hM : isM h a M) (hx : x = q_b g) (hk : M.1 3 = 0 ∨ g = false → ∀ h2, isM h2 a (mS M 4 (mo_th M g)) → q_out a 13 h h2 → P 1 h2 z) (h0 : ¬ M.1 3 = 0 → g = true → ∀ h2, isM h2 a (mS M 4 0) → q_out a 13 h h2 → P 0 h2 z) : QMi V iX9_isWrong [.ref a, .int x] h z P Kx := by
  have ho : q_out a 13 h h := q_out.refl
  refine eX9_isWrong ?_
  refine wX9_isWrong_0 ?_
  refine wX9_isWrong_1 ?_
  refine wX9_isWrong_2 hM.c ?_
  refine wX9_isWrong_5 (fun c5 => ?_) (fun c5 => ?_)
  · refine wX9_isWrong_12 ?_
    refine wX9_isWrong_13 (fun c13 => ?_) (fun c13 => ?_)
    · refine wX9_isWrong_20 ?_
      refine wX9_isWrong_21 hM.c ?_
      refine q_sx (k := 4) hM ho (fun h2 hM ho => ?_)
      refine wX9_isWrong_24 ?_
      refine wX9_isWrong_25 hM.c ?_
      refine wX9_isWrong_28 (fun c28 => ?_) (fun c28 => ?_)
      · refine wX9_isWrong_35 ?_
        refine wX9_isWrong_36  ?_
        subst hx
        first
          | (have q9 : M.1 3 = 0 := c5; exact hk (Or.inl q9) _ (hM.e (congrArg (mS M 4) (by rw [mo_th, if_pos q9]))) ho)
          | (have q9 : ¬ M.1 3 = 0 := c5; have q8 := q_b1 c13; subst q8; exact h0 q9 rfl _ hM ho)
          | (have q9 : ¬ M.1 3 = 0 := c5; have q8 := q_b0 c13; subst q8; exact hk (Or.inr rfl) _ (hM.e (congrArg (mS M 4) (by rw [mo_th, if_neg q9]; try rfl))) ho)
          | exact absurd (show (0 : Int32) < 1 by decide) (by assumption)
          | exact absurd (show (0 : Int32) < 2 by decide) (by assumption)
          | exact absurd (show (0 : Int32) < 0 by assumption) (by decide)
          | exact absurd (show (1 : Int32) ≤ 0 by assumption) (by decide)
          | exact absurd (show (2 : Int32) ≤ 0 by assumption) (by decide)
          | exact absurd (show ¬ (0 : Int32) ≤ 0 by assumption) (by decide)
      · refine wX9_isWrong_31 ?_
        refine wX9_isWrong_32 ?_
        refine wX9_isWrong_36  ?_
        subst hx
        first
          | (have q9 : M.1 3 = 0 := c5; exact hk (Or.inl q9) _ (hM.e (congrArg (mS M 4) (by rw [mo_th, if_pos q9]))) ho)
          | (have q9 : ¬ M.1 3 = 0 := c5; have q8 := q_b1 c13; subst q8; exact h0 q9 rfl _ hM ho)
          | (have q9 : ¬ M.1 3 = 0 := c5; have q8 := q_b0 c13; subst q8; exact hk (Or.inr rfl) _ (hM.e (congrArg (mS M 4) (by rw [mo_th, if_neg q9]; try rfl))) ho)
          | exact absurd (show (0 : Int32) < 1 by decide) (by assumption)
          | exact absurd (show (0 : Int32) < 2 by decide) (by assumption)
          | exact absurd (show (0 : Int32) < 0 by assumption) (by decide)
          | exact absurd (show (1 : Int32) ≤ 0 by assumption) (by decide)
          | exact absurd (show (2 : Int32) ≤ 0 by assumption) (by decide)
          | exact absurd (show ¬ (0 : Int32) ≤ 0 by assumption) (by decide)
    · refine wX9_isWrong_16 ?_
      refine wX9_isWrong_17 ?_
      refine wX9_isWrong_21 hM.c ?_
      refine q_sx (k := 4) hM ho (fun h2 hM ho => ?_)
      refine wX9_isWrong_24 ?_
      refine wX9_isWrong_25 hM.c ?_
      refine wX9_isWrong_28 (fun c28 => ?_) (fun c28 => ?_)
      · refine wX9_isWrong_35 ?_
        refine wX9_isWrong_36  ?_
        subst hx
        first
          | (have q9 : M.1 3 = 0 := c5; exact hk (Or.inl q9) _ (hM.e (congrArg (mS M 4) (by rw [mo_th, if_pos q9]))) ho)
          | (have q9 : ¬ M.1 3 = 0 := c5; have q8 := q_b1 c13; subst q8; exact h0 q9 rfl _ hM ho)
          | (have q9 : ¬ M.1 3 = 0 := c5; have q8 := q_b0 c13; subst q8; exact hk (Or.inr rfl) _ (hM.e (congrArg (mS M 4) (by rw [mo_th, if_neg q9]; try rfl))) ho)
          | exact absurd (show (0 : Int32) < 1 by decide) (by assumption)
          | exact absurd (show (0 : Int32) < 2 by decide) (by assumption)
          | exact absurd (show (0 : Int32) < 0 by assumption) (by decide)
          | exact absurd (show (1 : Int32) ≤ 0 by assumption) (by decide)
          | exact absurd (show (2 : Int32) ≤ 0 by assumption) (by decide)
          | exact absurd (show ¬ (0 : Int32) ≤ 0 by assumption) (by decide)
      · refine wX9_isWrong_31 ?_
        refine wX9_isWrong_32 ?_
        refine wX9_isWrong_36  ?_
        subst hx
        first
          | (have q9 : M.1 3 = 0 := c5; exact hk (Or.inl q9) _ (hM.e (congrArg (mS M 4) (by rw [mo_th, if_pos q9]))) ho)
          | (have q9 : ¬ M.1 3 = 0 := c5; have q8 := q_b1 c13; subst q8; exact h0 q9 rfl _ hM ho)
          | (have q9 : ¬ M.1 3 = 0 := c5; have q8 := q_b0 c13; subst q8; exact hk (Or.inr rfl) _ (hM.e (congrArg (mS M 4) (by rw [mo_th, if_neg q9]; try rfl))) ho)
          | exact absurd (show (0 : Int32) < 1 by decide) (by assumption)
          | exact absurd (show (0 : Int32) < 2 by decide) (by assumption)
          | exact absurd (show (0 : Int32) < 0 by assumption) (by decide)
          | exact absurd (show (1 : Int32) ≤ 0 by assumption) (by decide)
          | exact absurd (show (2 : Int32) ≤ 0 by assumption) (by decide)
          | exact absurd (show ¬ (0 : Int32) ≤ 0 by assumption) (by decide)
  · refine wX9_isWrong_8 ?_
    refine wX9_isWrong_9 ?_
    refine wX9_isWrong_21 hM.c ?_
    refine q_sx (k := 4) hM ho (fun h2 hM ho => ?_)
    refine wX9_isWrong_24 ?_
    refine wX9_isWrong_25 hM.c ?_
    refine wX9_isWrong_28 (fun c28 => ?_) (fun c28 => ?_)
    · refine wX9_isWrong_35 ?_
      refine wX9_isWrong_36  ?_
      subst hx
      first
        | (have q9 : M.1 3 = 0 := c5; exact hk (Or.inl q9) _ (hM.e (congrArg (mS M 4) (by rw [mo_th, if_pos q9]))) ho)
        | (have q9 : ¬ M.1 3 = 0 := c5; have q8 := q_b1 c13; subst q8; exact h0 q9 rfl _ hM ho)
        | (have q9 : ¬ M.1 3 = 0 := c5; have q8 := q_b0 c13; subst q8; exact hk (Or.inr rfl) _ (hM.e (congrArg (mS M 4) (by rw [mo_th, if_neg q9]; try rfl))) ho)
        | exact absurd (show (0 : Int32) < 1 by decide) (by assumption)
        | exact absurd (show (0 : Int32) < 2 by decide) (by assumption)
        | exact absurd (show (0 : Int32) < 0 by assumption) (by decide)
        | exact absurd (show (1 : Int32) ≤ 0 by assumption) (by decide)
        | exact absurd (show (2 : Int32) ≤ 0 by assumption) (by decide)
        | exact absurd (show ¬ (0 : Int32) ≤ 0 by assumption) (by decide)
    · refine wX9_isWrong_31 ?_
      refine wX9_isWrong_32 ?_
      refine wX9_isWrong_36  ?_
      subst hx
      first
        | (have q9 : M.1 3 = 0 := c5; exact hk (Or.inl q9) _ (hM.e (congrArg (mS M 4) (by rw [mo_th, if_pos q9]))) ho)
        | (have q9 : ¬ M.1 3 = 0 := c5; have q8 := q_b1 c13; subst q8; exact h0 q9 rfl _ hM ho)
        | (have q9 : ¬ M.1 3 = 0 := c5; have q8 := q_b0 c13; subst q8; exact hk (Or.inr rfl) _ (hM.e (congrArg (mS M 4) (by rw [mo_th, if_neg q9]; try rfl))) ho)
        | exact absurd (show (0 : Int32) < 1 by decide) (by assumption)
        | exact absurd (show (0 : Int32) < 2 by decide) (by assumption)
        | exact absurd (show (0 : Int32) < 0 by assumption) (by decide)
        | exact absurd (show (1 : Int32) ≤ 0 by assumption) (by decide)
        | exact absurd (show (2 : Int32) ≤ 0 by assumption) (by decide)
        | exact absurd (show ¬ (0 : Int32) ≤ 0 by assumption) (by decide)
theorem mX9_putPlayer {a : Nat} {M : q_Mo} {r : Nat → Int64} {p w : Nat} {v : Int32} {P : q_H → Option Nat → Prop} (hM : isM h a (mLr M 1 r)) (hp : p < 24) (hw : w < 10) (hk : ∀ h2, isM h2 a (mLr M 1 (rp r p w v)) → q_out a 13 h h2 → P h2 z) : QMv V iX9_putPlayer [.ref a, .int (nI p), .int (nI w), .int v] h z P Kx := by
  have ho : q_out a 13 h h := q_out.refl
  refine eX9_putPlayer ?_
  refine wX9_putPlayer_0 ?_
  refine wX9_putPlayer_1 hM.c ?_
  refine wX9_putPlayer_4 ?_
  refine wX9_putPlayer_6 ?_
  refine wX9_putPlayer_8 ?_
  refine wX9_putPlayer_9 ?_
  refine wX9_putPlayer_10 ?_
  refine wX9_putPlayer_11 ?_
  refine wX9_putPlayer_12 ?_
  refine wX9_putPlayer_13 ?_
  refine wX9_putPlayer_14 ?_
  refine wX9_putPlayer_15 hM.a1 (nI_ix 6 10 p w) (by omega) (by decide) ?_
  refine q_nL (k := 1) (by decide) hM ho (fun h2 hM ho => ?_)
  refine wX9_putPlayer_16  ?_
  exact hk _ (hM.e mLr_2) ho
theorem mX9_addTeam {a : Nat} {M : q_Mo} {r : Nat → Int64} {t w : Nat} {x : Int64} {P : q_H → Option Nat → Prop} (hM : isM h a (mLr M 1 r)) (ht : t < 4) (hw : w < 35) (hk : ∀ h2, isM h2 a (mLr M 1 (ra r t w x)) → q_out a 13 h h2 → P h2 z) : QMv V iX9_addTeam [.ref a, .int (nI t), .int (nI w), .long x] h z P Kx := by
  have ho : q_out a 13 h h := q_out.refl
  refine eX9_addTeam ?_
  refine wX9_addTeam_0 ?_
  refine wX9_addTeam_1 hM.c ?_
  refine wX9_addTeam_4 ?_
  refine wX9_addTeam_7 ?_
  refine wX9_addTeam_9 ?_
  refine wX9_addTeam_10 ?_
  refine wX9_addTeam_11 ?_
  refine wX9_addTeam_12 ?_
  refine wX9_addTeam_13 ?_
  refine wX9_addTeam_14 ?_
  refine wX9_addTeam_15 hM.a1 (nI_ix 246 35 t w) (by omega) (by decide) ?_
  refine wX9_addTeam_16 ?_
  refine wX9_addTeam_17 ?_
  refine wX9_addTeam_18 hM.a1 (nI_ix 246 35 t w) (by omega) (by decide) ?_
  refine q_nL (k := 1) (by decide) hM ho (fun h2 hM ho => ?_)
  refine wX9_addTeam_19  ?_
  exact hk _ (hM.e mLr_2) ho
def r_cp (f g : Nat → Int64) (n : Nat) : Nat → Int64 := fun q => if q < n then f q else g q
theorem r_cp_0 {f g : Nat → Int64} : r_cp f g 0 = g := funext fun q => if_neg (by omega)
theorem r_cp_s {f g : Nat → Int64} {k : Nat} : vp_updL (r_cp f g k) k (f k) = r_cp f g (k + 1) := funext fun q => by
  unfold vp_updL r_cp
  by_cases e : q = k
  · subst e; rw [if_pos rfl, if_pos (by omega)]
  · rw [if_neg e]
    by_cases e2 : q < k
    · rw [if_pos e2, if_pos (by omega)]
    · rw [if_neg e2, if_neg (by omega)]
theorem mX9_putAside {a : Nat} {M : q_Mo} {P : q_H → Option Nat → Prop} (hM : isM h a M) (hk : ∀ h2, isM h2 a (mLr M 9 (r_cp (M.2.1 1) (M.2.1 9) 386)) → q_out a 13 h h2 → P h2 z) : QMv V iX9_putAside [.ref a] h z P Kx := by
  have ho : q_out a 13 h h := q_out.refl
  refine eX9_putAside ?_
  refine wX9_putAside_0 ?_
  refine wX9_putAside_1 ?_
  refine q_for (P := fun k => ∀ hh, isM hh a (mLr M 9 (r_cp (M.2.1 1) (M.2.1 9) k)) → q_out a 13 h hh → QW V iX9_putAside 2 [some (.ref a), some (.int (nI k))] [] hh z 0 0 (q_Kv P) Kx) 386 ?_ ?_ _ (hM.e (by rw [r_cp_0]; exact mLr_i.symm)) ho
  · intro hh hM ho
    refine wX9_putAside_2 ?_
    refine wX9_putAside_3 ?_
    refine wX9_putAside_6 (fun c6 => ?_) (fun c6 => absurd (by decide) c6)
    refine wX9_putAside_27  ?_
    exact hk _ hM ho
  · intro k hkn ih hh hM ho
    refine wX9_putAside_2 ?_
    refine wX9_putAside_3 ?_
    refine wX9_putAside_6 (fun c6 => absurd c6 (nI_ge (b := 386) hkn (by decide))) (fun c6 => ?_)
    refine wX9_putAside_9 ?_
    refine wX9_putAside_10 hM.c ?_
    refine wX9_putAside_13 ?_
    refine wX9_putAside_14 ?_
    refine wX9_putAside_15 hM.c ?_
    refine wX9_putAside_18 ?_
    refine wX9_putAside_19 hM.a1 rfl (show k < 386 from hkn) (by decide) ?_
    refine wX9_putAside_20 hM.a9 rfl (show k < 386 from hkn) (by decide) ?_
    refine q_nL (k := 9) (by decide) hM ho (fun h2 hM ho => ?_)
    refine wX9_putAside_21 ?_
    refine wX9_putAside_24 ?_
    refine q_ls ?_ (ih _ (hM.e (mLr_2.trans (congrArg (mLr M 9) r_cp_s))) ho)
    rw [nI_1]
theorem mX9_takeBack {a : Nat} {M : q_Mo} {P : q_H → Option Nat → Prop} (hM : isM h a M) (hk : ∀ h2, isM h2 a (mLr M 1 (r_cp (M.2.1 9) (M.2.1 1) 386)) → q_out a 13 h h2 → P h2 z) : QMv V iX9_takeBack [.ref a] h z P Kx := by
  have ho : q_out a 13 h h := q_out.refl
  refine eX9_takeBack ?_
  refine wX9_takeBack_0 ?_
  refine wX9_takeBack_1 ?_
  refine q_for (P := fun k => ∀ hh, isM hh a (mLr M 1 (r_cp (M.2.1 9) (M.2.1 1) k)) → q_out a 13 h hh → QW V iX9_takeBack 2 [some (.ref a), some (.int (nI k))] [] hh z 0 0 (q_Kv P) Kx) 386 ?_ ?_ _ (hM.e (by rw [r_cp_0]; exact mLr_i.symm)) ho
  · intro hh hM ho
    refine wX9_takeBack_2 ?_
    refine wX9_takeBack_3 ?_
    refine wX9_takeBack_6 (fun c6 => ?_) (fun c6 => absurd (by decide) c6)
    refine wX9_takeBack_27  ?_
    exact hk _ hM ho
  · intro k hkn ih hh hM ho
    refine wX9_takeBack_2 ?_
    refine wX9_takeBack_3 ?_
    refine wX9_takeBack_6 (fun c6 => absurd c6 (nI_ge (b := 386) hkn (by decide))) (fun c6 => ?_)
    refine wX9_takeBack_9 ?_
    refine wX9_takeBack_10 hM.c ?_
    refine wX9_takeBack_13 ?_
    refine wX9_takeBack_14 ?_
    refine wX9_takeBack_15 hM.c ?_
    refine wX9_takeBack_18 ?_
    refine wX9_takeBack_19 hM.a9 rfl (show k < 386 from hkn) (by decide) ?_
    refine wX9_takeBack_20 hM.a1 rfl (show k < 386 from hkn) (by decide) ?_
    refine q_nL (k := 1) (by decide) hM ho (fun h2 hM ho => ?_)
    refine wX9_takeBack_21 ?_
    refine wX9_takeBack_24 ?_
    refine q_ls ?_ (ih _ (hM.e (mLr_2.trans (congrArg (mLr M 1) r_cp_s))) ho)
    rw [nI_1]
/-- the past moved up by one row, and a row written into it -/
def r_sh1 (f : Nat → Int64) (n : Nat) : Nat → Int64 := fun q => if q < n then f (q + 386) else f q
theorem r_sh1_0 {f : Nat → Int64} : r_sh1 f 0 = f := funext fun q => if_neg (by omega)
theorem r_sh1_s {f : Nat → Int64} {k : Nat} : vp_updL (r_sh1 f k) k (r_sh1 f k (386 + k)) = r_sh1 f (k + 1) := funext fun q => by
  unfold vp_updL r_sh1
  by_cases e : q = k
  · subst e; rw [if_pos rfl, if_neg (by omega), if_pos (by omega), Nat.add_comm]
  · rw [if_neg e]
    by_cases e2 : q < k
    · rw [if_pos e2, if_pos (by omega)]
    · rw [if_neg e2, if_neg (by omega)]
def r_wr (f : Nat → Int64) (r : Nat → Int64) (n k : Nat) : Nat → Int64 := fun q => if 386 * n ≤ q ∧ q < 386 * n + k then r (q - 386 * n) else f q
theorem r_wr_0 {f r : Nat → Int64} {n : Nat} : r_wr f r n 0 = f := funext fun q => if_neg (by omega)
theorem r_wr_s {f r : Nat → Int64} {n k : Nat} : vp_updL (r_wr f r n k) (386 * n + k) (r k) = r_wr f r n (k + 1) := funext fun q => by
  unfold vp_updL r_wr
  by_cases e : q = 386 * n + k
  · subst e; rw [if_pos rfl, if_pos (by omega), show 386 * n + k - 386 * n = k by omega]
  · rw [if_neg e]
    by_cases e2 : 386 * n ≤ q ∧ q < 386 * n + k
    · rw [if_pos e2, if_pos (by omega)]
    · rw [if_neg e2, if_neg (by omega)]
/-- how many are remembered before the row is written -/
def mo_rn (n : Nat) : Nat := if n = 10 then 9 else n
def mo_rem (M : q_Mo) (n : Nat) : q_Mo := mS (mLr M 2 (r_wr (if n = 10 then r_sh1 (M.2.1 2) 3474 else M.2.1 2) (m_r M) (mo_rn n) 386)) 2 (nI (mo_rn n + 1))
theorem mo_rem_1 {M : q_Mo} {n k : Nat} (hk : ¬ k = 2) : (mo_rem M n).1 k = M.1 k := if_neg hk
theorem mo_rem_r {M : q_Mo} {n : Nat} : m_r (mo_rem M n) = m_r M := rfl
theorem okM_e {M M' : q_Mo} {w nt np nb : Nat} (hO : okM M w nt np nb) (h5 : M'.1 5 = M.1 5) (h6 : M'.1 6 = M.1 6) (h7 : M'.1 7 = M.1 7) (hr : m_r M' = m_r M) : okM M' w nt np nb :=
  ⟨⟨hO.1.1, (congrArg r_nw hr).trans hO.1.2⟩, ⟨hO.2.1.1, h5.trans hO.2.1.2⟩, ⟨hO.2.2.1.1, h6.trans hO.2.2.1.2⟩, ⟨hO.2.2.2.1.1, h7.trans hO.2.2.2.1.2⟩, by rw [hr]; exact hO.2.2.2.2.1, by rw [hr]; exact hO.2.2.2.2.2⟩
theorem okM_4 {M : q_Mo} {w nt np nb : Nat} {x : Int32} (hO : okM M w nt np nb) : okM (mS M 4 x) w nt np nb := okM_e hO rfl rfl rfl rfl
theorem okM_rem {M : q_Mo} {n w nt np nb : Nat} (hO : okM M w nt np nb) : okM (mo_rem M n) w nt np nb := okM_e hO (mo_rem_1 (by decide)) (mo_rem_1 (by decide)) (mo_rem_1 (by decide)) mo_rem_r
theorem okM_9 {M : q_Mo} {A : Nat → Int64} {w nt np nb : Nat} (hO : okM M w nt np nb) : okM (mLr M 9 A) w nt np nb := okM_e hO rfl rfl rfl rfl
theorem okM_i {M : q_Mo} {r : Nat → Int64} {w nt np nb : Nat} (hO : okM M w nt np nb) (hr : r = m_r M) : okM (mLr M 1 r) w nt np nb := okM_e hO rfl rfl rfl hr
theorem isM.rr {a : Nat} {M : q_Mo} {r : Nat → Int64} (hM : isM h a M) (hr : m_r M = r) : isM h a (mLr M 1 r) := by subst hr; exact hM.r
theorem q_35 (k : Nat) : nI (386 + k) - 386 = nI k := by rw [show (386 : Int32) = nI 386 from rfl, nI_sb (Nat.le_add_right 386 k), Nat.add_sub_cancel_left]
theorem nI_ix0 (e p w : Nat) : nI e * nI p + nI w = nI (e * p + w) := by rw [nI_mul, nI_add]
theorem mX9_remember {a : Nat} {M : q_Mo} {n : Nat} {P : q_H → Option Nat → Prop} (hM : isM h a M) (hn : M.1 2 = nI n) (hn10 : n ≤ 10) (hk : ∀ h2, isM h2 a (mo_rem M n) → q_out a 13 h h2 → P h2 z) : QMv V iX9_remember [.ref a] h z P Kx := by
  have ho : q_out a 13 h h := q_out.refl
  have hj : ∀ (hh : q_H) (M1 : q_Mo) (n1 : Nat) (x1 : Option Value), q_n2 x1 = true → n1 ≤ 9 → M1.1 2 = nI n1 → m_r M1 = m_r M → mS (mLr M1 2 (r_wr (M1.2.1 2) (m_r M) n1 386)) 2 (nI (n1 + 1)) = mo_rem M n → isM hh a M1 → q_out a 13 h hh → QW V iX9_remember 52 [some (.ref a), x1] [] hh z 0 0 (q_Kv P) Kx := by
    intro hh M1 n1 x1 hx1 hn1 hm hr he hM ho
    refine wX9_remember_52 ?_
    refine wX9_remember_53 ?_
    refine q_for (P := fun k => ∀ hh, isM hh a (mLr M1 2 (r_wr (M1.2.1 2) (m_r M) n1 k)) → q_out a 13 h hh → QW V iX9_remember 54 [some (.ref a), some (.int (nI k))] [] hh z 0 0 (q_Kv P) Kx) 386 ?_ ?_ _ (hM.e (by rw [r_wr_0]; exact mLr_i.symm)) ho
    · intro hh hM ho
      refine wX9_remember_54 ?_
      refine wX9_remember_55 ?_
      refine wX9_remember_58 (fun c58 => ?_) (fun c58 => absurd (by decide) c58)
      refine wX9_remember_88 ?_
      refine wX9_remember_89 ?_
      refine wX9_remember_90 hM.c ?_
      refine wX9_remember_93 ?_
      refine wX9_remember_94 ?_
      refine wX9_remember_95 hM.c ?_
      refine q_sx (k := 2) hM ho (fun h2 hM ho => ?_)
      refine wX9_remember_98  ?_
      refine hk _ (hM.e ?_) ho
      rw [← he]
      show mS _ 2 (M1.1 2 + 1) = _
      rw [hm, nI_1]
    · intro k hkn ih hh hM ho
      refine wX9_remember_54 ?_
      refine wX9_remember_55 ?_
      refine wX9_remember_58 (fun c58 => absurd c58 (nI_ge (b := 386) hkn (by decide))) (fun c58 => ?_)
      refine wX9_remember_61 ?_
      refine wX9_remember_62 hM.c ?_
      refine wX9_remember_65 ?_
      refine wX9_remember_68 ?_
      refine wX9_remember_69 hM.c ?_
      refine wX9_remember_72 ?_
      refine wX9_remember_73 ?_
      refine wX9_remember_74 ?_
      refine wX9_remember_75 ?_
      refine wX9_remember_76 hM.c ?_
      refine wX9_remember_79 ?_
      refine wX9_remember_80 hM.a1 rfl (show k < 386 from hkn) (by decide) ?_
      refine wX9_remember_81 hM.a2 (by rw [hm]; exact nI_ix0 386 n1 k) (by omega) (by decide) ?_
      refine q_nL (k := 2) (by decide) hM ho (fun h2 hM ho => ?_)
      refine wX9_remember_82 ?_
      refine wX9_remember_85 ?_
      refine q_ls ?_ (ih _ (hM.e (mLr_2.trans (congrArg (mLr M1 2) ?_))) ho)
      · rw [nI_1]
      · rw [← r_wr_s]; exact congrArg (vp_updL (r_wr (M1.2.1 2) (m_r M) n1 k) (386 * n1 + k)) (show m_r M1 k = m_r M k by rw [hr])
  refine eX9_remember ?_
  refine wX9_remember_0 ?_
  refine wX9_remember_1 hM.c ?_
  refine wX9_remember_4 ?_
  refine wX9_remember_6 (fun c6 => ?_) (fun c6 => ?_)
  · first
      | (have q9 : ¬ M.1 2 = 10 := c6
         exact hj _ _ n _ (by rfl) (by have : n ≠ 10 := fun e => q9 (by rw [hn, e]; try rfl)
                                       omega) hn rfl (by have e9 : n ≠ 10 := fun e => q9 (by rw [hn, e]; try rfl)
                                                         rw [mo_rem, mo_rn, if_neg e9, if_neg e9]) hM ho)
      | skip
  · refine wX9_remember_9 ?_
    refine wX9_remember_12 ?_
    have q9 : n = 10 := nI_inj (by omega) (by decide) (hn.symm.trans c6)
    refine q_for (P := fun k => ∀ hh, isM hh a (mLr M 2 (r_sh1 (M.2.1 2) k)) → q_out a 13 h hh → QW V iX9_remember 13 [some (.ref a), some (.int (nI (386 + k)))] [] hh z 0 0 (q_Kv P) Kx) 3474 ?_ ?_ _ (hM.e (by rw [r_sh1_0]; exact mLr_i.symm)) ho
    · intro hh hM ho
      refine wX9_remember_13 ?_
      refine wX9_remember_14 ?_
      refine wX9_remember_17 (fun c17 => ?_) (fun c17 => absurd (by decide) c17)
      refine wX9_remember_42 ?_
      refine wX9_remember_43 ?_
      refine wX9_remember_44 hM.c ?_
      refine wX9_remember_47 ?_
      refine wX9_remember_48 ?_
      refine wX9_remember_49 hM.c ?_
      refine q_sx (k := 2) hM ho (fun h2 hM ho => ?_)
      refine hj _ (mS (mLr M 2 (r_sh1 (M.2.1 2) 3474)) 2 (M.1 2 - 1)) 9 _ (by rfl) (by decide) (show M.1 2 - 1 = nI 9 by rw [c6]; decide) rfl ?_ hM ho
      subst q9
      rw [mo_rem, mo_rn, if_pos rfl, if_pos rfl]
      exact (congrArg (fun q => (q, (mLr (mLr M 2 (r_sh1 (M.2.1 2) 3474)) 2 (r_wr (r_sh1 (M.2.1 2) 3474) (m_r M) 9 386)).2)) upd_2).trans (congrArg (fun q => (upd M.1 2 (nI (9 + 1)), q)) (congrArg Prod.snd mLr_2))
    · intro k hkn ih hh hM ho
      refine wX9_remember_13 ?_
      refine wX9_remember_14 ?_
      refine wX9_remember_17 (fun c17 => absurd c17 (nI_ge (b := 3860) (show 386 + k < 3860 by omega) (by decide))) (fun c17 => ?_)
      refine wX9_remember_20 ?_
      refine wX9_remember_21 hM.c ?_
      refine wX9_remember_24 ?_
      refine wX9_remember_25 ?_
      refine wX9_remember_28 ?_
      refine wX9_remember_29 ?_
      refine wX9_remember_30 hM.c ?_
      refine wX9_remember_33 ?_
      refine wX9_remember_34 hM.a2 rfl (show 386 + k < 3860 by omega) (by decide) ?_
      refine wX9_remember_35 hM.a2 (q_35 k) (show k < 3860 by omega) (by decide) ?_
      refine q_nL (k := 2) (by decide) hM ho (fun h2 hM ho => ?_)
      refine wX9_remember_36 ?_
      refine wX9_remember_39 ?_
      refine q_ls ?_ (ih _ (hM.e (mLr_2.trans (congrArg (mLr M 2) r_sh1_s))) ho)
      rw [nI_1]; try rfl
def r_rd (f : Nat → Int64) (r : Nat → Int64) (n k : Nat) : Nat → Int64 := fun q => if q < k then f (386 * n + q) else r q
theorem r_rd_0 {f r : Nat → Int64} {n : Nat} : r_rd f r n 0 = r := funext fun q => if_neg (by omega)
theorem r_rd_s {f r : Nat → Int64} {n k : Nat} : vp_updL (r_rd f r n k) k (f (386 * n + k)) = r_rd f r n (k + 1) := funext fun q => by
  unfold vp_updL r_rd
  by_cases e : q = k
  · subst e; rw [if_pos rfl, if_pos (by omega)]
  · rw [if_neg e]
    by_cases e2 : q < k
    · rw [if_pos e2, if_pos (by omega)]
    · rw [if_neg e2, if_neg (by omega)]
def mo_und (M : q_Mo) (n : Nat) : q_Mo := mLr (mS M 2 (nI (n - 1))) 1 (r_rd (M.2.1 2) (m_r M) (n - 1) 386)
theorem mX9_undo {a : Nat} {M : q_Mo} {n : Nat} {P : Int32 → q_H → Option Nat → Prop} (hM : isM h a M) (hn : M.1 2 = nI n) (hn10 : n ≤ 10) (hw : ∀ h2, isM h2 a (mS M 4 1) → q_out a 13 h h2 → M.1 3 = 0 → P 0 h2 z) (hz : ¬ M.1 3 = 0 → M.1 2 = 0 → ∀ h2, isM h2 a (mS M 4 0) → q_out a 13 h h2 → P (-2) h2 z) (hk : ¬ M.1 3 = 0 → n ≠ 0 → ∀ h2, isM h2 a (mo_und (mS M 4 0) n) → q_out a 13 h h2 → P (nI (n - 1)) h2 z) : QMi V iX9_undo [.ref a] h z P Kx := by
  have ho : q_out a 13 h h := q_out.refl
  refine eX9_undo ?_
  refine wX9_undo_0 ?_
  refine wX9_undo_1 ?_
  refine wX9_undo_2 hM.c (mX9_isWrong (g := true) hM rfl (fun hc h2 hM ho2 => ?_) (fun hl _ h2 hM ho2 => ?_))
  · refine wX9_undo_5 (fun c5 => absurd c5 (by decide)) (fun c5 => ?_)
    refine wX9_undo_8 ?_
    refine wX9_undo_9  ?_
    exact hw _ (hM.e (congrArg (mS M 4) (by rw [mo_th, if_pos (hc.elim id (fun q => by cases q))]))) ho2 (hc.elim id (fun q => by cases q))
  · refine wX9_undo_5 (fun c5 => ?_) (fun c5 => absurd rfl c5)
    have ho := ho.trans ho2
    refine wX9_undo_10 ?_
    refine wX9_undo_11 hM.c ?_
    refine wX9_undo_14 (fun c14 => ?_) (fun c14 => ?_)
    · refine wX9_undo_20 ?_
      refine wX9_undo_21 ?_
      refine wX9_undo_22 hM.c ?_
      refine wX9_undo_25 ?_
      refine wX9_undo_26 ?_
      refine wX9_undo_27 hM.c ?_
      refine q_sx (k := 2) hM ho (fun h2 hM ho => ?_)
      refine wX9_undo_30 ?_
      refine wX9_undo_31 ?_
      have hm : (mS (mS M 4 0) 2 (M.1 2 - 1)).1 2 = nI (n - 1) := by
        show M.1 2 - 1 = _
        rw [hn]; exact nI_sb (b := 1) (by have : n ≠ 0 := fun e => c14 (show M.1 2 = 0 by rw [hn, e]; try rfl)
                                          omega)
      refine q_for (P := fun k => ∀ hh, isM hh a (mLr (mS (mS M 4 0) 2 (M.1 2 - 1)) 1 (r_rd (M.2.1 2) (m_r M) (n - 1) k)) → q_out a 13 h hh → QW V iX9_undo 32 [some (.ref a), some (.int (nI k))] [] hh z 0 0 (q_Ki P) Kx) 386 ?_ ?_ _ (hM.e (by rw [r_rd_0]; exact mLr_i.symm)) ho
      · intro hh hM ho
        refine wX9_undo_32 ?_
        refine wX9_undo_33 ?_
        refine wX9_undo_36 (fun c36 => ?_) (fun c36 => absurd (by decide) c36)
        refine wX9_undo_66 ?_
        refine wX9_undo_67 hM.c ?_
        refine wX9_undo_70  ?_
        refine q_cv hm (hk hl (fun e => c14 (show M.1 2 = 0 by rw [hn, e]; try rfl)) _ (hM.e ?_) ho)
        exact congrArg (fun q => mLr (mS (mS M 4 0) 2 q) 1 (r_rd (M.2.1 2) (m_r M) (n - 1) 386)) hm
      · intro k hkn ih hh hM ho
        refine wX9_undo_32 ?_
        refine wX9_undo_33 ?_
        refine wX9_undo_36 (fun c36 => absurd c36 (nI_ge (b := 386) hkn (by decide))) (fun c36 => ?_)
        refine wX9_undo_39 ?_
        refine wX9_undo_40 hM.c ?_
        refine wX9_undo_43 ?_
        refine wX9_undo_44 ?_
        refine wX9_undo_45 hM.c ?_
        refine wX9_undo_48 ?_
        refine wX9_undo_51 ?_
        refine wX9_undo_52 hM.c ?_
        refine wX9_undo_55 ?_
        refine wX9_undo_56 ?_
        refine wX9_undo_57 ?_
        refine wX9_undo_58 hM.a2 (by rw [hm]; exact nI_ix0 386 (n - 1) k) (by omega) (by decide) ?_
        refine wX9_undo_59 hM.a1 rfl (show k < 386 from hkn) (by decide) ?_
        refine q_nL (k := 1) (by decide) hM ho (fun h2 hM ho => ?_)
        refine wX9_undo_60 ?_
        refine wX9_undo_63 ?_
        refine q_ls ?_ (ih _ (hM.e (mLr_2.trans (congrArg (mLr _ 1) r_rd_s))) ho)
        rw [nI_1]
    · refine wX9_undo_17 ?_
      refine wX9_undo_19  ?_
      exact hz hl (show M.1 2 = 0 from c14) _ hM ho
end CX9b

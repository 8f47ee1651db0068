/-! SalaryCapLedgerModel: offers, signing, releases, the end of a year -/
section CX9d
variable {V : q_En} {h : q_H} {z : Option Nat} {Kx : q_KX}
def r_al (m : Nat → Int32) (r : Nat → Int64) (np w t p : Nat) (x : Int32) : Bool :=
  if x = 0 then decide (r_fc r ≤ r_room m r np w t) else if x = 1 then decide (¬ r_ot r t 0 < (r_fc r).toInt64 ∧ r_oo r 2 ≤ 3)
  else if x = 2 then decide (r_oo r 0 ≤ m 12 ∧ r_oo r 1 = 0 ∧ r_oo r 3 = 0 ∧ r_oo r 2 ≤ 2) else decide (r_op r p 1 = nI t ∧ ¬ r_op r p 2 < 2)
def r_why (m : Nat → Int32) (r : Nat → Int64) (np w t p : Nat) (x : Int32) : Int32 :=
  if r_has r p = true then -2 else if r_ty (r_set r t np) 24 = 12 then -3 else if r_al m r np w t p x = true then 0 else -4
theorem mX9_isAllowed {a : Nat} {M : q_Mo} {t p : Nat} {x : Int32} {w nt np nb : Nat} {P : Int32 → q_H → Option Nat → Prop} (hM : isM h a M) (hO : okM M w nt np nb) (ht : t < 4) (hp : p < 24) (hk : P (q_b (r_al M.1 (m_r M) np w t p x)) h z) : QMi V iX9_isAllowed [.ref a, .int (nI t), .int (nI p), .int x] h z P Kx := by
  refine eX9_isAllowed ?_
  refine wX9_isAllowed_0 ?_
  refine wX9_isAllowed_1 (fun c1 => ?_) (fun c1 => ?_) (fun c1 => ?_) (fun c1 => ?_)
  · refine wX9_isAllowed_28 ?_
    refine wX9_isAllowed_29 hM.c (mX9_firstCost hM hO.2.2.2.2.1 ?_)
    refine wX9_isAllowed_32 ?_
    refine wX9_isAllowed_33 ?_
    refine wX9_isAllowed_34 hM.c (mX9_roomOf hM hO ht ?_)
    refine wX9_isAllowed_37 (fun c37 => ?_) (fun c37 => ?_)
    · refine wX9_isAllowed_44 ?_
      refine wX9_isAllowed_45  ?_
      subst c1
      rw [r_al, if_pos rfl] at hk
      first
        | (have q9 : ¬ r_fc (m_r M) ≤ r_room M.1 (m_r M) np w t := Int32.not_le.mpr c37; rw [decide_eq_false q9] at hk; exact hk)
        | (have q9 : r_fc (m_r M) ≤ r_room M.1 (m_r M) np w t := Int32.not_lt.mp c37; rw [decide_eq_true q9] at hk; exact hk)
    · refine wX9_isAllowed_40 ?_
      refine wX9_isAllowed_41 ?_
      refine wX9_isAllowed_45  ?_
      subst c1
      rw [r_al, if_pos rfl] at hk
      first
        | (have q9 : ¬ r_fc (m_r M) ≤ r_room M.1 (m_r M) np w t := Int32.not_le.mpr c37; rw [decide_eq_false q9] at hk; exact hk)
        | (have q9 : r_fc (m_r M) ≤ r_room M.1 (m_r M) np w t := Int32.not_lt.mp c37; rw [decide_eq_true q9] at hk; exact hk)
  · refine wX9_isAllowed_46 ?_
    refine wX9_isAllowed_47 hM.c (mX9_firstCost hM hO.2.2.2.2.1 ?_)
    refine wX9_isAllowed_50 ?_
    refine wX9_isAllowed_51 ?_
    refine wX9_isAllowed_52 ?_
    refine wX9_isAllowed_53 ?_
    refine wX9_isAllowed_54 hM.c (mX9_ofTeam (w := 0) hM ht (by decide) ?_)
    refine wX9_isAllowed_57 (fun c57 => ?_) (fun c57 => ?_)
    · refine wX9_isAllowed_74 ?_
      refine wX9_isAllowed_75  ?_
      subst c1
      rw [r_al, if_neg (by decide), if_pos rfl] at hk
      first
        | (have q9 : ¬ r_oo (m_r M) 2 ≤ 3 := Int32.not_le.mpr c67; rw [decide_eq_false (fun q => q9 q.2)] at hk; exact hk)
        | (have q9 : r_oo (m_r M) 2 ≤ 3 := Int32.not_lt.mp c67; rw [decide_eq_true ⟨c57, q9⟩] at hk; exact hk)
        | (have q9 : r_ot (m_r M) t 0 < (r_fc (m_r M)).toInt64 := c57; rw [decide_eq_false (fun q => q.1 q9)] at hk; exact hk)
    · refine wX9_isAllowed_61 ?_
      refine wX9_isAllowed_62 ?_
      refine wX9_isAllowed_63 hM.c (mX9_ofOffer (w := 2) hM (by decide) ?_)
      refine wX9_isAllowed_66 ?_
      refine wX9_isAllowed_67 (fun c67 => ?_) (fun c67 => ?_)
      · refine wX9_isAllowed_74 ?_
        refine wX9_isAllowed_75  ?_
        subst c1
        rw [r_al, if_neg (by decide), if_pos rfl] at hk
        first
          | (have q9 : ¬ r_oo (m_r M) 2 ≤ 3 := Int32.not_le.mpr c67; rw [decide_eq_false (fun q => q9 q.2)] at hk; exact hk)
          | (have q9 : r_oo (m_r M) 2 ≤ 3 := Int32.not_lt.mp c67; rw [decide_eq_true ⟨c57, q9⟩] at hk; exact hk)
          | (have q9 : r_ot (m_r M) t 0 < (r_fc (m_r M)).toInt64 := c57; rw [decide_eq_false (fun q => q.1 q9)] at hk; exact hk)
      · refine wX9_isAllowed_70 ?_
        refine wX9_isAllowed_71 ?_
        refine wX9_isAllowed_75  ?_
        subst c1
        rw [r_al, if_neg (by decide), if_pos rfl] at hk
        first
          | (have q9 : ¬ r_oo (m_r M) 2 ≤ 3 := Int32.not_le.mpr c67; rw [decide_eq_false (fun q => q9 q.2)] at hk; exact hk)
          | (have q9 : r_oo (m_r M) 2 ≤ 3 := Int32.not_lt.mp c67; rw [decide_eq_true ⟨c57, q9⟩] at hk; exact hk)
          | (have q9 : r_ot (m_r M) t 0 < (r_fc (m_r M)).toInt64 := c57; rw [decide_eq_false (fun q => q.1 q9)] at hk; exact hk)
  · refine wX9_isAllowed_76 ?_
    refine wX9_isAllowed_77 ?_
    refine wX9_isAllowed_78 hM.c (mX9_ofOffer (w := 0) hM (by decide) ?_)
    refine wX9_isAllowed_81 ?_
    refine wX9_isAllowed_82 hM.c ?_
    refine wX9_isAllowed_85 (fun c85 => ?_) (fun c85 => ?_)
    · refine wX9_isAllowed_117 ?_
      refine wX9_isAllowed_118  ?_
      subst c1
      rw [r_al, if_neg (by decide), if_neg (by decide), if_pos rfl] at hk
      first
        | (have q9 : ¬ r_oo (m_r M) 2 ≤ 2 := Int32.not_le.mpr c110; rw [decide_eq_false (fun q => q9 q.2.2.2)] at hk; exact hk)
        | (have q9 : r_oo (m_r M) 2 ≤ 2 := Int32.not_lt.mp c110; rw [decide_eq_true ⟨Int32.not_lt.mp c85, c93, c101, q9⟩] at hk; exact hk)
        | (have q9 : ¬ r_oo (m_r M) 3 = 0 := c101; rw [decide_eq_false (fun q => q9 q.2.2.1)] at hk; exact hk)
        | (have q9 : ¬ r_oo (m_r M) 1 = 0 := c93; rw [decide_eq_false (fun q => q9 q.2.1)] at hk; exact hk)
        | (have q9 : ¬ r_oo (m_r M) 0 ≤ M.1 12 := Int32.not_le.mpr c85; rw [decide_eq_false (fun q => q9 q.1)] at hk; exact hk)
    · refine wX9_isAllowed_88 ?_
      refine wX9_isAllowed_89 ?_
      refine wX9_isAllowed_90 hM.c (mX9_ofOffer (w := 1) hM (by decide) ?_)
      refine wX9_isAllowed_93 (fun c93 => ?_) (fun c93 => ?_)
      · refine wX9_isAllowed_117 ?_
        refine wX9_isAllowed_118  ?_
        subst c1
        rw [r_al, if_neg (by decide), if_neg (by decide), if_pos rfl] at hk
        first
          | (have q9 : ¬ r_oo (m_r M) 2 ≤ 2 := Int32.not_le.mpr c110; rw [decide_eq_false (fun q => q9 q.2.2.2)] at hk; exact hk)
          | (have q9 : r_oo (m_r M) 2 ≤ 2 := Int32.not_lt.mp c110; rw [decide_eq_true ⟨Int32.not_lt.mp c85, c93, c101, q9⟩] at hk; exact hk)
          | (have q9 : ¬ r_oo (m_r M) 3 = 0 := c101; rw [decide_eq_false (fun q => q9 q.2.2.1)] at hk; exact hk)
          | (have q9 : ¬ r_oo (m_r M) 1 = 0 := c93; rw [decide_eq_false (fun q => q9 q.2.1)] at hk; exact hk)
          | (have q9 : ¬ r_oo (m_r M) 0 ≤ M.1 12 := Int32.not_le.mpr c85; rw [decide_eq_false (fun q => q9 q.1)] at hk; exact hk)
      · refine wX9_isAllowed_96 ?_
        refine wX9_isAllowed_97 ?_
        refine wX9_isAllowed_98 hM.c (mX9_ofOffer (w := 3) hM (by decide) ?_)
        refine wX9_isAllowed_101 (fun c101 => ?_) (fun c101 => ?_)
        · refine wX9_isAllowed_117 ?_
          refine wX9_isAllowed_118  ?_
          subst c1
          rw [r_al, if_neg (by decide), if_neg (by decide), if_pos rfl] at hk
          first
            | (have q9 : ¬ r_oo (m_r M) 2 ≤ 2 := Int32.not_le.mpr c110; rw [decide_eq_false (fun q => q9 q.2.2.2)] at hk; exact hk)
            | (have q9 : r_oo (m_r M) 2 ≤ 2 := Int32.not_lt.mp c110; rw [decide_eq_true ⟨Int32.not_lt.mp c85, c93, c101, q9⟩] at hk; exact hk)
            | (have q9 : ¬ r_oo (m_r M) 3 = 0 := c101; rw [decide_eq_false (fun q => q9 q.2.2.1)] at hk; exact hk)
            | (have q9 : ¬ r_oo (m_r M) 1 = 0 := c93; rw [decide_eq_false (fun q => q9 q.2.1)] at hk; exact hk)
            | (have q9 : ¬ r_oo (m_r M) 0 ≤ M.1 12 := Int32.not_le.mpr c85; rw [decide_eq_false (fun q => q9 q.1)] at hk; exact hk)
        · refine wX9_isAllowed_104 ?_
          refine wX9_isAllowed_105 ?_
          refine wX9_isAllowed_106 hM.c (mX9_ofOffer (w := 2) hM (by decide) ?_)
          refine wX9_isAllowed_109 ?_
          refine wX9_isAllowed_110 (fun c110 => ?_) (fun c110 => ?_)
          · refine wX9_isAllowed_117 ?_
            refine wX9_isAllowed_118  ?_
            subst c1
            rw [r_al, if_neg (by decide), if_neg (by decide), if_pos rfl] at hk
            first
              | (have q9 : ¬ r_oo (m_r M) 2 ≤ 2 := Int32.not_le.mpr c110; rw [decide_eq_false (fun q => q9 q.2.2.2)] at hk; exact hk)
              | (have q9 : r_oo (m_r M) 2 ≤ 2 := Int32.not_lt.mp c110; rw [decide_eq_true ⟨Int32.not_lt.mp c85, c93, c101, q9⟩] at hk; exact hk)
              | (have q9 : ¬ r_oo (m_r M) 3 = 0 := c101; rw [decide_eq_false (fun q => q9 q.2.2.1)] at hk; exact hk)
              | (have q9 : ¬ r_oo (m_r M) 1 = 0 := c93; rw [decide_eq_false (fun q => q9 q.2.1)] at hk; exact hk)
              | (have q9 : ¬ r_oo (m_r M) 0 ≤ M.1 12 := Int32.not_le.mpr c85; rw [decide_eq_false (fun q => q9 q.1)] at hk; exact hk)
          · refine wX9_isAllowed_113 ?_
            refine wX9_isAllowed_114 ?_
            refine wX9_isAllowed_118  ?_
            subst c1
            rw [r_al, if_neg (by decide), if_neg (by decide), if_pos rfl] at hk
            first
              | (have q9 : ¬ r_oo (m_r M) 2 ≤ 2 := Int32.not_le.mpr c110; rw [decide_eq_false (fun q => q9 q.2.2.2)] at hk; exact hk)
              | (have q9 : r_oo (m_r M) 2 ≤ 2 := Int32.not_lt.mp c110; rw [decide_eq_true ⟨Int32.not_lt.mp c85, c93, c101, q9⟩] at hk; exact hk)
              | (have q9 : ¬ r_oo (m_r M) 3 = 0 := c101; rw [decide_eq_false (fun q => q9 q.2.2.1)] at hk; exact hk)
              | (have q9 : ¬ r_oo (m_r M) 1 = 0 := c93; rw [decide_eq_false (fun q => q9 q.2.1)] at hk; exact hk)
              | (have q9 : ¬ r_oo (m_r M) 0 ≤ M.1 12 := Int32.not_le.mpr c85; rw [decide_eq_false (fun q => q9 q.1)] at hk; exact hk)
  · refine wX9_isAllowed_119 ?_
    refine wX9_isAllowed_120 ?_
    refine wX9_isAllowed_121 ?_
    refine wX9_isAllowed_122 hM.c (mX9_ofPlayer (w := 1) hM hp (by decide) ?_)
    refine wX9_isAllowed_125 ?_
    refine wX9_isAllowed_126 (fun c126 => ?_) (fun c126 => ?_)
    · refine wX9_isAllowed_143 ?_
      refine wX9_isAllowed_144  ?_
      rw [r_al, if_neg (by rintro rfl; exact absurd c1 (by decide)), if_neg (by rintro rfl; exact absurd c1 (by decide)), if_neg (by rintro rfl; exact absurd c1 (by decide))] at hk
      first
        | (have q9 : r_op (m_r M) p 2 < 2 := c136; rw [decide_eq_false (fun q => q.2 q9)] at hk; exact hk)
        | (have q9 : ¬ r_op (m_r M) p 2 < 2 := c136; rw [decide_eq_true ⟨c126, q9⟩] at hk; exact hk)
        | (have q9 : ¬ r_op (m_r M) p 1 = nI t := c126; rw [decide_eq_false (fun q => q9 q.1)] at hk; exact hk)
    · refine wX9_isAllowed_129 ?_
      refine wX9_isAllowed_130 ?_
      refine wX9_isAllowed_131 ?_
      refine wX9_isAllowed_132 hM.c (mX9_ofPlayer (w := 2) hM hp (by decide) ?_)
      refine wX9_isAllowed_135 ?_
      refine wX9_isAllowed_136 (fun c136 => ?_) (fun c136 => ?_)
      · refine wX9_isAllowed_143 ?_
        refine wX9_isAllowed_144  ?_
        rw [r_al, if_neg (by rintro rfl; exact absurd c1 (by decide)), if_neg (by rintro rfl; exact absurd c1 (by decide)), if_neg (by rintro rfl; exact absurd c1 (by decide))] at hk
        first
          | (have q9 : r_op (m_r M) p 2 < 2 := c136; rw [decide_eq_false (fun q => q.2 q9)] at hk; exact hk)
          | (have q9 : ¬ r_op (m_r M) p 2 < 2 := c136; rw [decide_eq_true ⟨c126, q9⟩] at hk; exact hk)
          | (have q9 : ¬ r_op (m_r M) p 1 = nI t := c126; rw [decide_eq_false (fun q => q9 q.1)] at hk; exact hk)
      · refine wX9_isAllowed_139 ?_
        refine wX9_isAllowed_140 ?_
        refine wX9_isAllowed_144  ?_
        rw [r_al, if_neg (by rintro rfl; exact absurd c1 (by decide)), if_neg (by rintro rfl; exact absurd c1 (by decide)), if_neg (by rintro rfl; exact absurd c1 (by decide))] at hk
        first
          | (have q9 : r_op (m_r M) p 2 < 2 := c136; rw [decide_eq_false (fun q => q.2 q9)] at hk; exact hk)
          | (have q9 : ¬ r_op (m_r M) p 2 < 2 := c136; rw [decide_eq_true ⟨c126, q9⟩] at hk; exact hk)
          | (have q9 : ¬ r_op (m_r M) p 1 = nI t := c126; rw [decide_eq_false (fun q => q9 q.1)] at hk; exact hk)
theorem mX9_whyNotSign {a : Nat} {M : q_Mo} {t p : Nat} {x : Int32} {w nt np nb : Nat} {P : Int32 → q_H → Option Nat → Prop} (hM : isM h a M) (hO : okM M w nt np nb) (ht : t < 4) (hp : p < 24) (hk : P (r_why M.1 (m_r M) np w t p x) h z) : QMi V iX9_whyNotSign [.ref a, .int (nI t), .int (nI p), .int x] h z P Kx := by
  refine eX9_whyNotSign ?_
  refine wX9_whyNotSign_0 ?_
  refine wX9_whyNotSign_1 ?_
  refine wX9_whyNotSign_2 hM.c (mX9_hasContract hM hp ?_)
  refine wX9_whyNotSign_5 (fun c5 => ?_) (fun c5 => ?_)
  · refine wX9_whyNotSign_11 ?_
    refine wX9_whyNotSign_12 ?_
    refine wX9_whyNotSign_13 hM.c (mX9_rosterOf hM hO ?_)
    refine wX9_whyNotSign_16 (mX9_many ?_)
    refine wX9_whyNotSign_19 ?_
    refine wX9_whyNotSign_21 (fun c21 => ?_) (fun c21 => ?_)
    · refine wX9_whyNotSign_29 ?_
      refine wX9_whyNotSign_30 ?_
      refine wX9_whyNotSign_31 ?_
      refine wX9_whyNotSign_32 ?_
      refine wX9_whyNotSign_33 hM.c (mX9_isAllowed hM hO ht hp ?_)
      refine wX9_whyNotSign_36 (fun c36 => ?_) (fun c36 => ?_)
      · refine wX9_whyNotSign_43 ?_
        refine wX9_whyNotSign_45  ?_
        first
          | (have q9 := q_b0 c36; exact q_cv (by rw [r_why, if_neg (by rw [q_b0 c5]; decide), if_neg c21, if_neg (by rw [q9]; decide)]) hk)
          | (have q9 := q_b1 c36; exact q_cv (by rw [r_why, if_neg (by rw [q_b0 c5]; decide), if_neg c21, if_pos q9]) hk)
          | (have q9 : r_ty (r_set (m_r M) t np) 24 = 12 := c21; exact q_cv (by rw [r_why, if_neg (by rw [q_b0 c5]; decide), if_pos q9]) hk)
          | (have q9 := q_b1 c5; exact q_cv (by rw [r_why, if_pos q9]) hk)
      · refine wX9_whyNotSign_39 ?_
        refine wX9_whyNotSign_40 ?_
        refine wX9_whyNotSign_45  ?_
        first
          | (have q9 := q_b0 c36; exact q_cv (by rw [r_why, if_neg (by rw [q_b0 c5]; decide), if_neg c21, if_neg (by rw [q9]; decide)]) hk)
          | (have q9 := q_b1 c36; exact q_cv (by rw [r_why, if_neg (by rw [q_b0 c5]; decide), if_neg c21, if_pos q9]) hk)
          | (have q9 : r_ty (r_set (m_r M) t np) 24 = 12 := c21; exact q_cv (by rw [r_why, if_neg (by rw [q_b0 c5]; decide), if_pos q9]) hk)
          | (have q9 := q_b1 c5; exact q_cv (by rw [r_why, if_pos q9]) hk)
    · refine wX9_whyNotSign_24 ?_
      refine wX9_whyNotSign_26 ?_
      refine wX9_whyNotSign_45  ?_
      first
        | (have q9 := q_b0 c36; exact q_cv (by rw [r_why, if_neg (by rw [q_b0 c5]; decide), if_neg c21, if_neg (by rw [q9]; decide)]) hk)
        | (have q9 := q_b1 c36; exact q_cv (by rw [r_why, if_neg (by rw [q_b0 c5]; decide), if_neg c21, if_pos q9]) hk)
        | (have q9 : r_ty (r_set (m_r M) t np) 24 = 12 := c21; exact q_cv (by rw [r_why, if_neg (by rw [q_b0 c5]; decide), if_pos q9]) hk)
        | (have q9 := q_b1 c5; exact q_cv (by rw [r_why, if_pos q9]) hk)
  · refine wX9_whyNotSign_8 ?_
    refine wX9_whyNotSign_10  ?_
    first
      | (have q9 := q_b0 c36; exact q_cv (by rw [r_why, if_neg (by rw [q_b0 c5]; decide), if_neg c21, if_neg (by rw [q9]; decide)]) hk)
      | (have q9 := q_b1 c36; exact q_cv (by rw [r_why, if_neg (by rw [q_b0 c5]; decide), if_neg c21, if_pos q9]) hk)
      | (have q9 : r_ty (r_set (m_r M) t np) 24 = 12 := c21; exact q_cv (by rw [r_why, if_neg (by rw [q_b0 c5]; decide), if_pos q9]) hk)
      | (have q9 := q_b1 c5; exact q_cv (by rw [r_why, if_pos q9]) hk)
theorem q_tl {x y : Int32} : (x.toInt64 < y.toInt64) ↔ x < y := by
  rw [Int64.lt_iff_toInt_lt, Int32.lt_iff_toInt_lt, Int32.toInt_toInt64, Int32.toInt_toInt64]
theorem rgL_rg {v lo hi : Int32} : rgL v.toInt64 lo.toInt64 hi.toInt64 = rg v lo hi := by
  unfold rgL rg
  exact decide_eq_decide.mpr (and_congr (not_congr q_tl) ((not_congr q_tl).trans Int32.not_lt))
theorem rgL_0 {v hi : Int32} : rgL v.toInt64 0 hi.toInt64 = rg v 0 hi := rgL_rg (lo := 0)
theorem mgT_of {M : q_Mo} {w nt np nb : Nat} {t : Int32} (hO : okM M w nt np nb) (hg : mgT M t = true) : ∃ j, j < 4 ∧ t = nI j := by
  unfold mgT at hg; rw [rgL_0] at hg
  obtain ⟨j, hj, e⟩ := rg_of hO.2.1.1 (by decide) hO.2.1.2 hg
  exact ⟨j, by have := hO.2.1.1; omega, e⟩
theorem mgP_of {M : q_Mo} {w nt np nb : Nat} {t : Int32} (hO : okM M w nt np nb) (hg : mgP M t = true) : ∃ j, j < 24 ∧ t = nI j := by
  unfold mgP at hg; rw [rgL_0] at hg
  obtain ⟨j, hj, e⟩ := rg_of hO.2.2.1.1 (by decide) hO.2.2.1.2 hg
  exact ⟨j, by have := hO.2.2.1.1; omega, e⟩
theorem mgA_of {t : Int32} (hg : mgA t = true) : ∃ j, j < 12 ∧ t = nI j := by
  have h1 : rgL t.toInt64 0 (Int32.toInt64 11) = true := hg
  rw [rgL_0] at h1
  obtain ⟨j, hj, e⟩ := rg_of (n := 12) (k := 12) (Nat.le_refl _) (by decide) rfl h1
  exact ⟨j, hj, e⟩
/-- a row's offer set -/
def ro (r : Nat → Int64) (w : Nat) (v : Int32) : Nat → Int64 := vp_updL r (1 + w) v.toInt64
theorem ro_oo {r : Nat → Int64} {w u : Nat} {v : Int32} : r_oo (ro r w v) u = if u = w then v else r_oo r u := by
  unfold r_oo ro vp_updL
  by_cases e : u = w
  · rw [if_pos (by omega), if_pos e, Int32.toInt32_toInt64]
  · rw [if_neg (by omega), if_neg e]
theorem ro_op {r : Nat → Int64} {w p u : Nat} {v : Int32} (hw : w < 5) : r_op (ro r w v) p u = r_op r p u := by unfold r_op ro vp_updL; rw [if_neg (by omega)]
theorem ro_nw {r : Nat → Int64} {w : Nat} {v : Int32} : r_nw (ro r w v) = r_nw r := by unfold r_nw ro vp_updL; rw [if_neg (by omega)]
theorem ro_ot {r : Nat → Int64} {w t u : Nat} {v : Int32} (hw : w < 5) : r_ot (ro r w v) t u = r_ot r t u := by unfold r_ot ro vp_updL; rw [if_neg (by omega)]
def r_mo (r : Nat → Int64) (b q l s g : Int32) : Nat → Int64 := ro (ro (ro (ro (ro r 0 b) 1 q) 2 l) 3 s) 4 g
def mgO (b q l s g : Int32) : Bool := rgL b.toInt64 1 99999 && (rgL q.toInt64 0 20 && (rgL l.toInt64 1 5 && (rgL s.toInt64 0 99999 && rgL g.toInt64 0 l.toInt64)))
theorem mX9_makeOffer {a : Nat} {M : q_Mo} {b q l s g : Int32} {n : Nat} {P : Int32 → q_H → Option Nat → Prop} (hM : isM h a M) (hn : M.1 2 = nI n) (hn10 : n ≤ 10) (hw : M.1 3 = 0 ∨ (mgO b q l s g) = false → ∀ h2, isM h2 a (mS M 4 (mo_th M (mgO b q l s g))) → q_out a 13 h h2 → P 0 h2 z) (hk : ¬ M.1 3 = 0 → mgO b q l s g = true → ∀ h2, isM h2 a (mLr (mo_rem (mS M 4 0) n) 1 (r_mo (m_r M) b q l s g)) → q_out a 13 h h2 → P (r_fc (r_mo (m_r M) b q l s g)) h2 z) : QMi V iX9_makeOffer [.ref a, .int b, .int q, .int l, .int s, .int g] h z P Kx := by
  have ho : q_out a 13 h h := q_out.refl
  have hj : ∀ x : Int32, x = q_b (mgO b q l s g) → QW V iX9_makeOffer 67 [some (.ref a), some (.int b), some (.int q), some (.int l), some (.int s), some (.int g)] [.int x, .ref a] h z 0 0 (q_Ki P) Kx := by
    intro x hx
    refine wX9_makeOffer_67 hM.c (mX9_isWrong hM hx (fun hc h2 hM ho2 => ?_) (fun hl hg h2 hM ho2 => ?_))
    · refine wX9_makeOffer_70 (fun c => absurd c (by decide)) (fun _ => ?_)
      refine wX9_makeOffer_73 ?_
      refine wX9_makeOffer_74  ?_
      exact hw hc _ hM ho2
    · refine wX9_makeOffer_70 (fun _ => ?_) (fun c => absurd rfl c)
      have ho := ho.trans ho2
      have hl0 : ¬ r_oo (r_mo (m_r M) b q l s g) 2 = 0 := by
        unfold r_mo
        rw [ro_oo, if_neg (by decide), ro_oo, if_neg (by decide), ro_oo, if_pos rfl]
        intro e
        rw [e] at hg
        simp [mgO] at hg
        exact absurd hg.2.2.1 (by decide)
      refine wX9_makeOffer_75 ?_
      refine wX9_makeOffer_76 hM.c (mX9_remember hM hn hn10 (fun h2 hM ho2 => ?_))
      have ho := ho.trans ho2
      have hM : isM h2 a (mLr (mo_rem (mS M 4 0) n) 1 (m_r M)) := hM.rr mo_rem_r
      refine wX9_makeOffer_79 ?_
      refine wX9_makeOffer_80 hM.c ?_
      refine wX9_makeOffer_83 ?_
      refine wX9_makeOffer_84 ?_
      refine wX9_makeOffer_85 ?_
      refine wX9_makeOffer_86 hM.a1 (j := 1) rfl (by decide) (by decide) ?_
      refine q_nL (k := 1) (by decide) hM ho (fun h2 hM ho => ?_)
      have hM := hM.e mLr_2
      refine wX9_makeOffer_87 ?_
      refine wX9_makeOffer_88 hM.c ?_
      refine wX9_makeOffer_91 ?_
      refine wX9_makeOffer_92 ?_
      refine wX9_makeOffer_93 ?_
      refine wX9_makeOffer_94 hM.a1 (j := 2) rfl (by decide) (by decide) ?_
      refine q_nL (k := 1) (by decide) hM ho (fun h2 hM ho => ?_)
      have hM := hM.e mLr_2
      refine wX9_makeOffer_95 ?_
      refine wX9_makeOffer_96 hM.c ?_
      refine wX9_makeOffer_99 ?_
      refine wX9_makeOffer_100 ?_
      refine wX9_makeOffer_101 ?_
      refine wX9_makeOffer_102 hM.a1 (j := 3) rfl (by decide) (by decide) ?_
      refine q_nL (k := 1) (by decide) hM ho (fun h2 hM ho => ?_)
      have hM := hM.e mLr_2
      refine wX9_makeOffer_103 ?_
      refine wX9_makeOffer_104 hM.c ?_
      refine wX9_makeOffer_107 ?_
      refine wX9_makeOffer_108 ?_
      refine wX9_makeOffer_110 ?_
      refine wX9_makeOffer_111 hM.a1 (j := 4) rfl (by decide) (by decide) ?_
      refine q_nL (k := 1) (by decide) hM ho (fun h2 hM ho => ?_)
      have hM := hM.e mLr_2
      refine wX9_makeOffer_112 ?_
      refine wX9_makeOffer_113 hM.c ?_
      refine wX9_makeOffer_116 ?_
      refine wX9_makeOffer_117 ?_
      refine wX9_makeOffer_119 ?_
      refine wX9_makeOffer_120 hM.a1 (j := 5) rfl (by decide) (by decide) ?_
      refine q_nL (k := 1) (by decide) hM ho (fun h2 hM ho => ?_)
      have hM := hM.e mLr_2
      refine wX9_makeOffer_121 ?_
      refine wX9_makeOffer_122 hM.c (mX9_firstCost hM hl0 ?_)
      refine wX9_makeOffer_125  ?_
      exact hk hl hg _ hM ho
  refine eX9_makeOffer ?_
  refine wX9_makeOffer_0 ?_
  refine wX9_makeOffer_1 ?_
  refine wX9_makeOffer_2 ?_
  refine wX9_makeOffer_3 ?_
  refine wX9_makeOffer_4 ?_
  refine wX9_makeOffer_7 (mX9_isIn ?_)
  refine wX9_makeOffer_10 (fun c10 => ?_) (fun c10 => ?_)
  · refine wX9_makeOffer_66 ?_
    first
      | (have q5 : rgL g.toInt64 0 l.toInt64 = true := q_b1 c59; exact hj _ (by rw [mgO, q_b1 c10, q_b1 c22, q_b1 c34, q_b1 c47, q5]; try rfl))
      | (have q5 : rgL g.toInt64 0 l.toInt64 = false := q_b0 c59; exact hj _ (by simp [mgO, q5, q_b]))
      | (have q5 : rgL s.toInt64 0 99999 = false := q_b0 c47; exact hj _ (by simp [mgO, q5, q_b]))
      | (have q5 : rgL l.toInt64 1 5 = false := q_b0 c34; exact hj _ (by simp [mgO, q5, q_b]))
      | (have q5 : rgL q.toInt64 0 20 = false := q_b0 c22; exact hj _ (by simp [mgO, q5, q_b]))
      | (have q5 : rgL b.toInt64 1 99999 = false := q_b0 c10; exact hj _ (by simp [mgO, q5, q_b]))
  · refine wX9_makeOffer_13 ?_
    refine wX9_makeOffer_14 ?_
    refine wX9_makeOffer_15 ?_
    refine wX9_makeOffer_16 ?_
    refine wX9_makeOffer_19 (mX9_isIn ?_)
    refine wX9_makeOffer_22 (fun c22 => ?_) (fun c22 => ?_)
    · refine wX9_makeOffer_66 ?_
      first
        | (have q5 : rgL g.toInt64 0 l.toInt64 = true := q_b1 c59; exact hj _ (by rw [mgO, q_b1 c10, q_b1 c22, q_b1 c34, q_b1 c47, q5]; try rfl))
        | (have q5 : rgL g.toInt64 0 l.toInt64 = false := q_b0 c59; exact hj _ (by simp [mgO, q5, q_b]))
        | (have q5 : rgL s.toInt64 0 99999 = false := q_b0 c47; exact hj _ (by simp [mgO, q5, q_b]))
        | (have q5 : rgL l.toInt64 1 5 = false := q_b0 c34; exact hj _ (by simp [mgO, q5, q_b]))
        | (have q5 : rgL q.toInt64 0 20 = false := q_b0 c22; exact hj _ (by simp [mgO, q5, q_b]))
        | (have q5 : rgL b.toInt64 1 99999 = false := q_b0 c10; exact hj _ (by simp [mgO, q5, q_b]))
    · refine wX9_makeOffer_25 ?_
      refine wX9_makeOffer_26 ?_
      refine wX9_makeOffer_27 ?_
      refine wX9_makeOffer_28 ?_
      refine wX9_makeOffer_31 (mX9_isIn ?_)
      refine wX9_makeOffer_34 (fun c34 => ?_) (fun c34 => ?_)
      · refine wX9_makeOffer_66 ?_
        first
          | (have q5 : rgL g.toInt64 0 l.toInt64 = true := q_b1 c59; exact hj _ (by rw [mgO, q_b1 c10, q_b1 c22, q_b1 c34, q_b1 c47, q5]; try rfl))
          | (have q5 : rgL g.toInt64 0 l.toInt64 = false := q_b0 c59; exact hj _ (by simp [mgO, q5, q_b]))
          | (have q5 : rgL s.toInt64 0 99999 = false := q_b0 c47; exact hj _ (by simp [mgO, q5, q_b]))
          | (have q5 : rgL l.toInt64 1 5 = false := q_b0 c34; exact hj _ (by simp [mgO, q5, q_b]))
          | (have q5 : rgL q.toInt64 0 20 = false := q_b0 c22; exact hj _ (by simp [mgO, q5, q_b]))
          | (have q5 : rgL b.toInt64 1 99999 = false := q_b0 c10; exact hj _ (by simp [mgO, q5, q_b]))
      · refine wX9_makeOffer_37 ?_
        refine wX9_makeOffer_39 ?_
        refine wX9_makeOffer_40 ?_
        refine wX9_makeOffer_41 ?_
        refine wX9_makeOffer_44 (mX9_isIn ?_)
        refine wX9_makeOffer_47 (fun c47 => ?_) (fun c47 => ?_)
        · refine wX9_makeOffer_66 ?_
          first
            | (have q5 : rgL g.toInt64 0 l.toInt64 = true := q_b1 c59; exact hj _ (by rw [mgO, q_b1 c10, q_b1 c22, q_b1 c34, q_b1 c47, q5]; try rfl))
            | (have q5 : rgL g.toInt64 0 l.toInt64 = false := q_b0 c59; exact hj _ (by simp [mgO, q5, q_b]))
            | (have q5 : rgL s.toInt64 0 99999 = false := q_b0 c47; exact hj _ (by simp [mgO, q5, q_b]))
            | (have q5 : rgL l.toInt64 1 5 = false := q_b0 c34; exact hj _ (by simp [mgO, q5, q_b]))
            | (have q5 : rgL q.toInt64 0 20 = false := q_b0 c22; exact hj _ (by simp [mgO, q5, q_b]))
            | (have q5 : rgL b.toInt64 1 99999 = false := q_b0 c10; exact hj _ (by simp [mgO, q5, q_b]))
        · refine wX9_makeOffer_50 ?_
          refine wX9_makeOffer_52 ?_
          refine wX9_makeOffer_53 ?_
          refine wX9_makeOffer_54 ?_
          refine wX9_makeOffer_55 ?_
          refine wX9_makeOffer_56 (mX9_isIn ?_)
          refine wX9_makeOffer_59 (fun c59 => ?_) (fun c59 => ?_)
          · refine wX9_makeOffer_66 ?_
            first
              | (have q5 : rgL g.toInt64 0 l.toInt64 = true := q_b1 c59; exact hj _ (by rw [mgO, q_b1 c10, q_b1 c22, q_b1 c34, q_b1 c47, q5]; try rfl))
              | (have q5 : rgL g.toInt64 0 l.toInt64 = false := q_b0 c59; exact hj _ (by simp [mgO, q5, q_b]))
              | (have q5 : rgL s.toInt64 0 99999 = false := q_b0 c47; exact hj _ (by simp [mgO, q5, q_b]))
              | (have q5 : rgL l.toInt64 1 5 = false := q_b0 c34; exact hj _ (by simp [mgO, q5, q_b]))
              | (have q5 : rgL q.toInt64 0 20 = false := q_b0 c22; exact hj _ (by simp [mgO, q5, q_b]))
              | (have q5 : rgL b.toInt64 1 99999 = false := q_b0 c10; exact hj _ (by simp [mgO, q5, q_b]))
          · refine wX9_makeOffer_62 ?_
            refine wX9_makeOffer_63 ?_
            first
              | (have q5 : rgL g.toInt64 0 l.toInt64 = true := q_b1 c59; exact hj _ (by rw [mgO, q_b1 c10, q_b1 c22, q_b1 c34, q_b1 c47, q5]; try rfl))
              | (have q5 : rgL g.toInt64 0 l.toInt64 = false := q_b0 c59; exact hj _ (by simp [mgO, q5, q_b]))
              | (have q5 : rgL s.toInt64 0 99999 = false := q_b0 c47; exact hj _ (by simp [mgO, q5, q_b]))
              | (have q5 : rgL l.toInt64 1 5 = false := q_b0 c34; exact hj _ (by simp [mgO, q5, q_b]))
              | (have q5 : rgL q.toInt64 0 20 = false := q_b0 c22; exact hj _ (by simp [mgO, q5, q_b]))
              | (have q5 : rgL b.toInt64 1 99999 = false := q_b0 c10; exact hj _ (by simp [mgO, q5, q_b]))
def r_of (r : Nat → Int64) (p : Nat) : Nat → Nat → Int64
  | 0 => r
  | k + 1 => rp (r_of r p k) p (3 + k) (r_oo (r_of r p k) k)
theorem r_of_oo {r : Nat → Int64} {p u : Nat} (hu : u < 5) (k : Nat) : r_oo (r_of r p k) u = r_oo r u := by
  induction k with
  | zero => rfl
  | succ k ih => rw [r_of, rp_oo hu, ih]
theorem r_of_nw {r : Nat → Int64} {p : Nat} (k : Nat) : r_nw (r_of r p k) = r_nw r := by
  induction k with
  | zero => rfl
  | succ k ih => rw [r_of, rp_nw, ih]
theorem r_of_ot {r : Nat → Int64} {p t u : Nat} (hp : p < 24) (k : Nat) (hk : k ≤ 5) : r_ot (r_of r p k) t u = r_ot r t u := by
  induction k with
  | zero => rfl
  | succ k ih => rw [r_of, rp_ot hp (by omega), ih (by omega)]
theorem r_of_op {r : Nat → Int64} {p q u : Nat} (hu : u < 10) (k : Nat) (hk : k ≤ 5) : r_op (r_of r p k) q u = if q = p ∧ 3 ≤ u ∧ u < 3 + k then r_oo r (u - 3) else r_op r q u := by
  induction k with
  | zero => rw [if_neg (by omega)]; try rfl
  | succ k ih =>
    rw [r_of, rp_op (by omega) hu, r_of_oo (by omega), ih (by omega)]
    by_cases e : q = p ∧ u = 3 + k
    · rw [if_pos e, if_pos (by omega), e.2, show 3 + k - 3 = k by omega]
    · rw [if_neg e]
      by_cases e2 : q = p ∧ 3 ≤ u ∧ u < 3 + k
      · rw [if_pos e2, if_pos (by omega)]
      · rw [if_neg e2, if_neg (by omega)]
def r_sg1 (r : Nat → Int64) (t p : Nat) (x : Int32) : Nat → Int64 := ra r t 0 (if x = 1 then (-(r_fc r)).toInt64 else 0)
def r_sg2 (r : Nat → Int64) (t p : Nat) : Nat → Int64 := if r_op r p 1 = nI t then r else rp r p 2 0
def r_sg3 (r : Nat → Int64) (t p : Nat) : Nat → Int64 := rp (rp r p 0 (nI t)) p 1 (nI t)
def r_sg4 (r : Nat → Int64) (p : Nat) : Nat → Int64 := rp (rp (r_of r p 5) p 8 (r_nw r)) p 9 1
def r_sgn (r : Nat → Int64) (t p : Nat) (x : Int32) : Nat → Int64 := r_sg4 (r_sg3 (r_sg2 (r_sg1 r t p x) t p) t p) p
theorem r_sgn_nw {r : Nat → Int64} {t p : Nat} {x : Int32} : r_nw (r_sgn r t p x) = r_nw r := by
  unfold r_sgn r_sg4; rw [rp_nw, rp_nw, r_of_nw]; unfold r_sg3; rw [rp_nw, rp_nw]; unfold r_sg2; split
  · unfold r_sg1; rw [ra_nw]
  · rw [rp_nw]; unfold r_sg1; rw [ra_nw]
theorem r_sg3_oo {r : Nat → Int64} {t p u : Nat} {x : Int32} (hu : u < 5) : r_oo (r_sg3 (r_sg2 (r_sg1 r t p x) t p) t p) u = r_oo r u := by
  unfold r_sg3; rw [rp_oo hu, rp_oo hu]; unfold r_sg2; split
  · unfold r_sg1; rw [ra_oo hu]
  · rw [rp_oo hu]; unfold r_sg1; rw [ra_oo hu]
theorem r_sgn_oo {r : Nat → Int64} {t p u : Nat} {x : Int32} (hu : u < 5) : r_oo (r_sgn r t p x) u = r_oo r u := by
  unfold r_sgn r_sg4; rw [rp_oo hu, rp_oo hu, r_of_oo hu, r_sg3_oo hu]
/-- a player's place behind a signing -/
theorem r_sgn_op {r : Nat → Int64} {t p q u : Nat} {x : Int32} (hq : q < 24) (hu : u < 10) : r_op (r_sgn r t p x) q u = if q = p then (if u = 0 ∨ u = 1 then nI t else if u = 2 then (if r_op r p 1 = nI t then r_op r p 2 else 0) else if u = 8 then r_nw r else if u = 9 then 1 else r_oo r (u - 3)) else r_op r q u := by
  have e1 : ∀ q u, q < 24 → u < 10 → r_op (r_sg1 r t p x) q u = r_op r q u := fun q u hq hu => ra_op hq hu
  have e2 : r_op (r_sg2 (r_sg1 r t p x) t p) q u = if q = p ∧ u = 2 then (if r_op r p 1 = nI t then r_op r p 2 else 0) else r_op r q u := by
    unfold r_sg2
    by_cases e : q = p
    · subst e
      rw [e1 q 1 hq (by decide)]
      by_cases c : r_op r q 1 = nI t
      · rw [if_pos c, e1 q u hq hu]
        by_cases e3 : u = 2
        · subst e3; rw [if_pos ⟨rfl, rfl⟩, if_pos c]
        · rw [if_neg (fun z => e3 z.2)]
      · rw [if_neg c, rp_op (by decide) hu]
        by_cases e3 : u = 2
        · subst e3; rw [if_pos ⟨rfl, rfl⟩, if_pos ⟨rfl, rfl⟩, if_neg c]
        · rw [if_neg (fun z => e3 z.2), if_neg (fun z => e3 z.2), e1 q u hq hu]
    · have h0 : ¬ (q = p ∧ u = 2) := fun z => e z.1
      rw [if_neg h0]
      split
      · exact e1 q u hq hu
      · rw [rp_op (by decide) hu, if_neg h0, e1 q u hq hu]
  have e9 : r_nw (r_sg3 (r_sg2 (r_sg1 r t p x) t p) t p) = r_nw r := by
    unfold r_sg3; rw [rp_nw, rp_nw]; unfold r_sg2; split
    · unfold r_sg1; rw [ra_nw]
    · rw [rp_nw]; unfold r_sg1; rw [ra_nw]
  unfold r_sgn r_sg4
  rw [e9, rp_op (by decide) hu, rp_op (by decide) hu, r_of_op hu 5 (Nat.le_refl _)]
  have e10 : (if q = p ∧ 3 ≤ u ∧ u < 3 + 5 then r_oo (r_sg3 (r_sg2 (r_sg1 r t p x) t p) t p) (u - 3) else r_op (r_sg3 (r_sg2 (r_sg1 r t p x) t p) t p) q u) = (if q = p ∧ 3 ≤ u ∧ u < 3 + 5 then r_oo r (u - 3) else r_op (r_sg3 (r_sg2 (r_sg1 r t p x) t p) t p) q u) := by
    split
    · exact r_sg3_oo (by omega)
    · rfl
  rw [e10]
  unfold r_sg3
  rw [rp_op (by decide) hu, rp_op (by decide) hu, e2]
  by_cases e : q = p
  · subst e
    rw [if_pos rfl]
    rcases (show u = 0 ∨ u = 1 ∨ u = 2 ∨ (3 ≤ u ∧ u < 8) ∨ u = 8 ∨ u = 9 by omega) with e | e | e | e | e | e
    · subst e; simp
    · subst e; simp
    · subst e; simp
    · have n0 : ¬ u = 0 := by omega
      have n1 : ¬ u = 1 := by omega
      have n2 : ¬ u = 2 := by omega
      have n8 : ¬ u = 8 := by omega
      have n9 : ¬ u = 9 := by omega
      simp [n0, n1, n2, n8, n9, e]
    · subst e; simp
    · subst e; simp
  · simp [e]
theorem mX9_sign {a : Nat} {M : q_Mo} {t p x : Int32} {n : Nat} {w nt np nb : Nat} {P : Int32 → q_H → Option Nat → Prop} (hM : isM h a M) (hO : ¬ M.1 3 = 0 → okM M w nt np nb) (hn : M.1 2 = nI n) (hn10 : n ≤ 10) (hw : M.1 3 = 0 ∨ (mgS M t p x) = false → ∀ h2, isM h2 a (mS M 4 (mo_th M (mgS M t p x))) → q_out a 13 h h2 → P 0 h2 z) (hk1 : ¬ M.1 3 = 0 → mgS M t p x = true → ∀ j i, j < 4 → i < 24 → t = nI j → p = nI i → r_why M.1 (m_r M) np w j i x < 0 → ∀ h2, isM h2 a (mS M 4 0) → q_out a 13 h h2 → P (r_why M.1 (m_r M) np w j i x) h2 z) (hk2 : ¬ M.1 3 = 0 → mgS M t p x = true → ∀ j i, j < 4 → i < 24 → t = nI j → p = nI i → ¬ r_why M.1 (m_r M) np w j i x < 0 → ∀ h2, isM h2 a (mLr (mo_rem (mS M 4 0) n) 1 (r_sgn (m_r M) j i x)) → q_out a 13 h h2 → P (r_ch (r_sgn (m_r M) j i x) np w j 0) h2 z) : QMi V iX9_sign [.ref a, .int t, .int p, .int x] h z P Kx := by
  have ho : q_out a 13 h h := q_out.refl
  refine eX9_sign ?_
  refine wX9_sign_0 ?_
  refine wX9_sign_1 ?_
  refine wX9_sign_2 ?_
  refine wX9_sign_3 ?_
  refine wX9_sign_4 ?_
  refine wX9_sign_5 hM.c (mX9_isSigning hM ?_)
  refine wX9_sign_8 hM.c (mX9_isWrong hM rfl (fun hc h2 hM ho2 => ?_) (fun hl hg h2 hM ho2 => ?_))
  · refine wX9_sign_11 (fun c => absurd c (by decide)) (fun _ => ?_)
    refine wX9_sign_14 ?_
    refine wX9_sign_15  ?_
    exact hw hc _ hM ho2
  · refine wX9_sign_11 (fun _ => ?_) (fun c => absurd rfl c)
    have ho := ho.trans ho2
    have hO := hO hl
    have hg0 := hg
    simp only [mgS, Bool.and_eq_true] at hg0
    obtain ⟨j, hj, rfl⟩ := mgT_of hO hg0.1
    obtain ⟨i, hi, rfl⟩ := mgP_of hO hg0.2.1
    have hO0 : okM (mS M 4 0) w nt np nb := okM_4 hO
    have hO9 : okM (mLr (mo_rem (mS M 4 0) n) 1 (r_sgn (m_r M) j i x)) w nt np nb := by
      have hOr : okM (mLr (mo_rem (mS M 4 0) n) 1 (m_r M)) w nt np nb := okM_i (okM_rem (okM_4 hO)) mo_rem_r.symm
      refine okM_row hOr r_sgn_nw (r_sgn_oo (by decide)) (fun q hq hh => ?_)
      rw [r_sgn_op hq (by decide)]
      by_cases e : q = i
      · rw [if_pos e]; exact hO.2.2.2.2.1
      · rw [if_neg e]
        refine hO.2.2.2.2.2 q hq ?_
        have h1 := of_decide_eq_true hh
        rw [r_sgn_op hq (by decide), if_neg e] at h1
        exact decide_eq_true h1
    have hj75 : ∀ (hh : q_H) (x5 : Option Value), isM hh a (mLr (mo_rem (mS M 4 0) n) 1 (r_sg2 (r_sg1 (m_r M) j i x) j i)) → q_out a 13 h hh → ¬ r_why M.1 (m_r M) np w j i x < 0 → QW V iX9_sign 75 [some (.ref a), some (.int (nI j)), some (.int (nI i)), some (.int x), some (.int (r_why M.1 (m_r M) np w j i x)), none] [] hh z 0 0 (q_Ki P) Kx := by
      intro hh x5 hM ho hwy
      refine wX9_sign_75 ?_
      refine wX9_sign_76 ?_
      refine wX9_sign_77 ?_
      refine wX9_sign_78 ?_
      refine wX9_sign_79 hM.c (mX9_putPlayer (w := 0) hM hi (by decide) (fun h2 hM ho2 => ?_))
      have ho := ho.trans ho2
      refine wX9_sign_82 ?_
      refine wX9_sign_83 ?_
      refine wX9_sign_84 ?_
      refine wX9_sign_85 ?_
      refine wX9_sign_86 hM.c (mX9_putPlayer (w := 1) hM hi (by decide) (fun h2 hM ho2 => ?_))
      have ho := ho.trans ho2
      refine wX9_sign_89 ?_
      refine wX9_sign_90 ?_
      refine q_for (P := fun k => ∀ hh, isM hh a (mLr (mo_rem (mS M 4 0) n) 1 (r_of (r_sg3 (r_sg2 (r_sg1 (m_r M) j i x) j i) j i) i k)) → q_out a 13 h hh → QW V iX9_sign 92 [some (.ref a), some (.int (nI j)), some (.int (nI i)), some (.int x), some (.int (r_why M.1 (m_r M) np w j i x)), some (.int (nI k))] [] hh z 0 0 (q_Ki P) Kx) 5 ?_ ?_ _ hM ho
      · intro hh hM ho
        refine wX9_sign_92 ?_
        refine wX9_sign_94 ?_
        refine wX9_sign_95 (fun c95 => ?_) (fun c95 => absurd (by decide) c95)
        refine wX9_sign_119 ?_
        refine wX9_sign_120 ?_
        refine wX9_sign_121 ?_
        refine wX9_sign_123 ?_
        refine wX9_sign_124 hM.c (mX9_now hM ?_)
        refine wX9_sign_127 hM.c (mX9_putPlayer (w := 8) hM hi (by decide) (fun h2 hM ho2 => ?_))
        have ho := ho.trans ho2
        refine wX9_sign_130 ?_
        refine wX9_sign_131 ?_
        refine wX9_sign_132 ?_
        refine wX9_sign_134 ?_
        refine wX9_sign_135 hM.c (mX9_putPlayer (w := 9) hM hi (by decide) (fun h2 hM ho2 => ?_))
        have ho := ho.trans ho2
        have hM : isM h2 a (mLr (mo_rem (mS M 4 0) n) 1 (r_sgn (m_r M) j i x)) := hM.e (congrArg (mLr _ 1) (by
          show rp (rp (r_of (r_sg3 (r_sg2 (r_sg1 (m_r M) j i x) j i) j i) i 5) i 8 (r_nw (r_of (r_sg3 (r_sg2 (r_sg1 (m_r M) j i x) j i) j i) i 5))) i 9 1 = rp (rp (r_of (r_sg3 (r_sg2 (r_sg1 (m_r M) j i x) j i) j i) i 5) i 8 (r_nw (r_sg3 (r_sg2 (r_sg1 (m_r M) j i x) j i) j i))) i 9 1
          rw [r_of_nw]))
        refine wX9_sign_138 ?_
        refine wX9_sign_139 ?_
        refine wX9_sign_140 ?_
        refine wX9_sign_141 hM.c (mX9_chargeOf (x := 0) hM hO9 hj (by decide) ?_)
        refine wX9_sign_144  ?_
        exact hk2 hl hg j i hj hi rfl rfl hwy _ hM ho
      · intro k hkn ih hh hM ho
        refine wX9_sign_92 ?_
        refine wX9_sign_94 ?_
        refine wX9_sign_95 (fun c95 => absurd c95 (nI_ge (b := 5) hkn (by decide))) (fun c95 => ?_)
        refine wX9_sign_98 ?_
        refine wX9_sign_99 ?_
        refine wX9_sign_100 ?_
        refine wX9_sign_101 ?_
        refine wX9_sign_103 ?_
        rw [show (3 : Int32) + nI k = nI (3 + k) from nI_add 3 k]
        refine wX9_sign_104 ?_
        refine wX9_sign_105 ?_
        refine wX9_sign_107 hM.c (mX9_ofOffer hM (by omega) ?_)
        refine wX9_sign_110 hM.c (mX9_putPlayer (w := 3 + k) hM hi (by omega) (fun h2 hM ho2 => ?_))
        have ho := ho.trans ho2
        refine wX9_sign_113 ?_
        refine wX9_sign_116 ?_
        refine q_ls ?_ (ih _ hM ho)
        rw [nI_1]
    have hj55 : ∀ (hh : q_H), isM hh a (mLr (mo_rem (mS M 4 0) n) 1 (m_r M)) → q_out a 13 h hh → ¬ r_why M.1 (m_r M) np w j i x < 0 → ∀ xv : Int64, xv = (if x = 1 then (-(r_fc (m_r M))).toInt64 else 0) → QW V iX9_sign 55 [some (.ref a), some (.int (nI j)), some (.int (nI i)), some (.int x), some (.int (r_why M.1 (m_r M) np w j i x)), none] [.long xv, .int 0, .int (nI j), .ref a] hh z 0 0 (q_Ki P) Kx := by
      intro hh hM ho hwy xv hxv
      subst hxv
      refine wX9_sign_55 hM.c (mX9_addTeam (w := 0) hM hj (by decide) (fun h2 hM ho2 => ?_))
      have ho := ho.trans ho2
      refine wX9_sign_58 ?_
      refine wX9_sign_59 ?_
      refine wX9_sign_60 ?_
      refine wX9_sign_61 hM.c (mX9_ofPlayer (w := 1) hM hi (by decide) ?_)
      refine wX9_sign_64 ?_
      refine wX9_sign_65 (fun c65 => ?_) (fun c65 => ?_)
      · first
          | (have q9 : r_op (r_sg1 (m_r M) j i x) i 1 = nI j := c65; exact hj75 _ none (hM.e (congrArg (mLr _ 1) (show r_sg1 (m_r M) j i x = r_sg2 (r_sg1 (m_r M) j i x) j i by rw [r_sg2, if_pos q9]))) ho hwy)
          | (have q9 : ¬ r_op (r_sg1 (m_r M) j i x) i 1 = nI j := c65; exact hj75 _ none (hM.e (congrArg (mLr _ 1) (show rp (r_sg1 (m_r M) j i x) i 2 0 = r_sg2 (r_sg1 (m_r M) j i x) j i by rw [r_sg2, if_neg q9]))) ho hwy)
      · refine wX9_sign_68 ?_
        refine wX9_sign_69 ?_
        refine wX9_sign_70 ?_
        refine wX9_sign_71 ?_
        refine wX9_sign_72 hM.c (mX9_putPlayer (w := 2) hM hi (by decide) (fun h2 hM ho2 => ?_))
        have ho := ho.trans ho2
        first
          | (have q9 : r_op (r_sg1 (m_r M) j i x) i 1 = nI j := c65; exact hj75 _ none (hM.e (congrArg (mLr _ 1) (show r_sg1 (m_r M) j i x = r_sg2 (r_sg1 (m_r M) j i x) j i by rw [r_sg2, if_pos q9]))) ho hwy)
          | (have q9 : ¬ r_op (r_sg1 (m_r M) j i x) i 1 = nI j := c65; exact hj75 _ none (hM.e (congrArg (mLr _ 1) (show rp (r_sg1 (m_r M) j i x) i 2 0 = r_sg2 (r_sg1 (m_r M) j i x) j i by rw [r_sg2, if_neg q9]))) ho hwy)
    refine wX9_sign_16 ?_
    refine wX9_sign_17 ?_
    refine wX9_sign_18 ?_
    refine wX9_sign_19 ?_
    refine wX9_sign_20 hM.c (mX9_whyNotSign hM hO0 hj hi ?_)
    refine wX9_sign_23 ?_
    refine wX9_sign_25 ?_
    refine wX9_sign_27 (fun c27 => ?_) (fun c27 => ?_)
    · refine wX9_sign_33 ?_
      refine wX9_sign_34 hM.c (mX9_remember hM hn hn10 (fun h2 hM ho2 => ?_))
      have ho := ho.trans ho2
      have hM : isM h2 a (mLr (mo_rem (mS M 4 0) n) 1 (m_r M)) := hM.rr mo_rem_r
      have hO : okM (mLr (mo_rem (mS M 4 0) n) 1 (m_r M)) w nt np nb := okM_i (okM_rem (okM_4 hO)) mo_rem_r.symm
      refine wX9_sign_37 ?_
      refine wX9_sign_38 ?_
      refine wX9_sign_39 ?_
      refine wX9_sign_40 ?_
      refine wX9_sign_41 ?_
      refine wX9_sign_42 (fun c42 => ?_) (fun c42 => ?_)
      · refine wX9_sign_54 ?_
        first
          | (have q9 : x = 1 := c42; exact hj55 _ hM ho (Int32.not_lt.mpr c27) _ (by rw [if_pos q9]; try rfl))
          | (have q9 : ¬ x = 1 := c42; exact hj55 _ hM ho (Int32.not_lt.mpr c27) _ (by rw [if_neg q9]))
      · refine wX9_sign_45 ?_
        refine wX9_sign_46 hM.c (mX9_firstCost hM hO.2.2.2.2.1 ?_)
        refine wX9_sign_49 ?_
        refine wX9_sign_50 ?_
        refine wX9_sign_51 ?_
        first
          | (have q9 : x = 1 := c42; exact hj55 _ hM ho (Int32.not_lt.mpr c27) _ (by rw [if_pos q9]; try rfl))
          | (have q9 : ¬ x = 1 := c42; exact hj55 _ hM ho (Int32.not_lt.mpr c27) _ (by rw [if_neg q9]))
    · refine wX9_sign_30 ?_
      refine wX9_sign_32  ?_
      exact hk1 hl hg j i hj hi rfl rfl (Int32.not_le.mp c27) _ hM ho
end CX9d

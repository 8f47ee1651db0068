/-! SalaryCapLedger: what would be: signings, releases -/
section CX8b
variable {V : q_En} {h : q_H} {z : Option Nat} {Kx : q_KX}
def l_pe (S : q_Ls) (j i : Nat) : Int32 := if pl_has (b_p (ls_B S) i) = true then -2 else if q_bc (b_set (ls_B S) (nI j) 24) < 12 then 0 else -3
def l_bl (S : q_Ls) (j i : Nat) (r : Int32) : Int32 :=
  if r = 0 then l_room S j - d_shr (b_o (ls_B S)) 0
  else if r = 1 then (if 3 < d_n (b_o (ls_B S)) then 0 else t_m (b_t (ls_B S) j) - d_shr (b_o (ls_B S)) 0)
  else if r = 2 then (if d_r (b_o (ls_B S)) = 0 ∧ d_s (b_o (ls_B S)) = 0 ∧ ¬ 2 < d_n (b_o (ls_B S)) then te_u (ls_T S) else 0)
  else if p_l (b_p (ls_B S) i) = nI j ∧ ¬ p_n (b_p (ls_B S) i) < 2 then 99999 else 0
def l_se (S : q_Ls) (j i : Nat) (r : Int32) : Int32 := if l_pe S j i = 0 then (if l_bl S j i r < d_b (b_o (ls_B S)) then -4 else 0) else l_pe S j i
def l_gb (S : q_Ls) (j i : Nat) (r : Int32) : Int32 := if l_pe S j i = 0 then (if 1 ≤ (if 99999 < l_bl S j i r then 99999 else l_bl S j i r) then (if 99999 < l_bl S j i r then 99999 else l_bl S j i r) else -2) else -2
def l_br (S : q_Ls) (j i : Nat) : Nat → Nat → Int32
  | 0, _ => -2
  | n + 1, k => if l_se S j i (nI k) = 0 then nI k else l_br S j i n (k + 1)
theorem mX8_placeError {L : Nat} {S : q_Ls} {X : q_Lx} {j i : Nat} {P : Int32 → q_H → Option Nat → Prop} (hL : isLx h L S X) (hi : i < 24) (hk : P (l_pe S j i) h z) : QMi V iX8_placeError [.ref L, .int (nI j), .int (nI i)] h z P Kx := by
  refine eX8_placeError ?_
  refine wX8_placeError_0 ?_
  refine wX8_placeError_1 hL.c ?_
  refine wX8_placeError_4 hL.B.1 ?_
  refine wX8_placeError_7 ?_
  refine wX8_placeError_8 (t := 4) rfl hL.B.2.1 rfl hi (by decide) (if_pos hi) ?_
  refine wX8_placeError_9 (hL.B.P hi).1 (mX3_hasContract (hL.B.P hi) ?_)
  refine wX8_placeError_12 (fun c12 => ?_) (fun c12 => ?_)
  · refine wX8_placeError_18 ?_
    refine wX8_placeError_19 hL.c ?_
    refine wX8_placeError_22 ?_
    refine wX8_placeError_23 hL.B.1 (mX0_playersOf hL.B ?_)
    refine wX8_placeError_26 (mJ6_bitCount_0f7a4 ?_)
    refine wX8_placeError_29 ?_
    refine wX8_placeError_31 (fun c31 => ?_) (fun c31 => ?_)
    · refine wX8_placeError_39 ?_
      refine wX8_placeError_40  ?_
      first
        | exact q_cv (by rw [l_pe, if_neg (by rw [q_b0 c12]; decide), if_pos c31]) hk
        | exact q_cv (by rw [l_pe, if_neg (by rw [q_b0 c12]; decide), if_neg c31]) hk
    · refine wX8_placeError_34 ?_
      refine wX8_placeError_36 ?_
      refine wX8_placeError_40  ?_
      first
        | exact q_cv (by rw [l_pe, if_neg (by rw [q_b0 c12]; decide), if_pos c31]) hk
        | exact q_cv (by rw [l_pe, if_neg (by rw [q_b0 c12]; decide), if_neg c31]) hk
  · refine wX8_placeError_15 ?_
    refine wX8_placeError_17  ?_
    exact q_cv (by rw [l_pe, if_pos (q_b1 c12)]) hk
theorem mX8_baseLimit {L : Nat} {S : q_Ls} {X : q_Lx} {j i : Nat} {r : Int32} {P : Int32 → q_H → Option Nat → Prop} (hL : isLx h L S X) (hj : j < 4) (hi : i < 24) (hk : P (l_bl S j i r) h z) : QMi V iX8_baseLimit [.ref L, .int (nI j), .int (nI i), .int r] h z P Kx := by
  refine eX8_baseLimit ?_
  refine wX8_baseLimit_0 ?_
  refine wX8_baseLimit_1 hL.c ?_
  refine wX8_baseLimit_4 hL.B.1 ?_
  refine wX8_baseLimit_7 ?_
  refine wX8_baseLimit_9 ?_
  refine wX8_baseLimit_10 hL.c ?_
  refine wX8_baseLimit_13 hL.B.1 ?_
  refine wX8_baseLimit_16 ?_
  refine wX8_baseLimit_17 (t := 4) rfl hL.B.2.1 rfl hi (by decide) (if_pos hi) ?_
  refine wX8_baseLimit_18 ?_
  refine wX8_baseLimit_20 ?_
  refine wX8_baseLimit_21 (fun c21 => ?_) (fun c21 => ?_) (fun c21 => ?_) (fun c21 => ?_)
  · refine wX8_baseLimit_48 ?_
    refine wX8_baseLimit_49 ?_
    refine wX8_baseLimit_50 hL.c (mX8_roomOf hL hj ?_)
    refine wX8_baseLimit_53 ?_
    refine wX8_baseLimit_55 ?_
    refine wX8_baseLimit_56 hL.B.2.2.2.1 (mX1_shareOf hL.B.2.2.2.1 ?_)
    refine wX8_baseLimit_59 ?_
    refine wX8_baseLimit_60  ?_
    subst c21; rw [l_bl, if_pos rfl] at hk; exact hk
  · refine wX8_baseLimit_61 ?_
    refine wX8_baseLimit_63 hL.B.2.2.2.1 ?_
    refine wX8_baseLimit_66 ?_
    refine wX8_baseLimit_67 (fun c67 => ?_) (fun c67 => ?_)
    · refine wX8_baseLimit_92 ?_
      refine wX8_baseLimit_93  ?_
      subst c21
      rw [l_bl, if_neg (by decide), if_pos rfl] at hk
      first
        | (rw [if_pos c67] at hk; exact hk)
        | (rw [if_neg c67] at hk; exact hk)
    · refine wX8_baseLimit_70 ?_
      refine wX8_baseLimit_71 hL.c ?_
      refine wX8_baseLimit_74 hL.B.1 ?_
      refine wX8_baseLimit_77 ?_
      refine wX8_baseLimit_78 (t := 5) rfl hL.B.2.2.1 rfl hj (by decide) (if_pos hj) ?_
      refine wX8_baseLimit_79 (hL.B.T hj).1 ?_
      refine wX8_baseLimit_82 ?_
      refine wX8_baseLimit_84 ?_
      refine wX8_baseLimit_85 hL.B.2.2.2.1 (mX1_shareOf hL.B.2.2.2.1 ?_)
      refine wX8_baseLimit_88 ?_
      refine wX8_baseLimit_89 ?_
      refine wX8_baseLimit_93  ?_
      subst c21
      rw [l_bl, if_neg (by decide), if_pos rfl] at hk
      first
        | (rw [if_pos c67] at hk; exact hk)
        | (rw [if_neg c67] at hk; exact hk)
  · refine wX8_baseLimit_94 ?_
    refine wX8_baseLimit_96 hL.B.2.2.2.1 ?_
    refine wX8_baseLimit_99 (fun c99 => ?_) (fun c99 => ?_)
    · refine wX8_baseLimit_129 ?_
      refine wX8_baseLimit_130  ?_
      subst c21
      rw [l_bl, if_neg (by decide), if_neg (by decide), if_pos rfl] at hk
      first
        | (rw [if_pos ⟨c99, c107, c116⟩] at hk; exact hk)
        | (have q9 := c116; rw [if_neg (fun q => q.2.2 q9)] at hk; exact hk)
        | (have q9 := c107; rw [if_neg (fun q => q9 q.2.1)] at hk; exact hk)
        | (rw [if_neg (fun q => c99 q.1)] at hk; exact hk)
    · refine wX8_baseLimit_102 ?_
      refine wX8_baseLimit_104 hL.B.2.2.2.1 ?_
      refine wX8_baseLimit_107 (fun c107 => ?_) (fun c107 => ?_)
      · refine wX8_baseLimit_129 ?_
        refine wX8_baseLimit_130  ?_
        subst c21
        rw [l_bl, if_neg (by decide), if_neg (by decide), if_pos rfl] at hk
        first
          | (rw [if_pos ⟨c99, c107, c116⟩] at hk; exact hk)
          | (have q9 := c116; rw [if_neg (fun q => q.2.2 q9)] at hk; exact hk)
          | (have q9 := c107; rw [if_neg (fun q => q9 q.2.1)] at hk; exact hk)
          | (rw [if_neg (fun q => c99 q.1)] at hk; exact hk)
      · refine wX8_baseLimit_110 ?_
        refine wX8_baseLimit_112 hL.B.2.2.2.1 ?_
        refine wX8_baseLimit_115 ?_
        refine wX8_baseLimit_116 (fun c116 => ?_) (fun c116 => ?_)
        · refine wX8_baseLimit_129 ?_
          refine wX8_baseLimit_130  ?_
          subst c21
          rw [l_bl, if_neg (by decide), if_neg (by decide), if_pos rfl] at hk
          first
            | (rw [if_pos ⟨c99, c107, c116⟩] at hk; exact hk)
            | (have q9 := c116; rw [if_neg (fun q => q.2.2 q9)] at hk; exact hk)
            | (have q9 := c107; rw [if_neg (fun q => q9 q.2.1)] at hk; exact hk)
            | (rw [if_neg (fun q => c99 q.1)] at hk; exact hk)
        · refine wX8_baseLimit_119 ?_
          refine wX8_baseLimit_120 hL.c ?_
          refine wX8_baseLimit_123 hL.E.1 ?_
          refine wX8_baseLimit_126 ?_
          refine wX8_baseLimit_130  ?_
          subst c21
          rw [l_bl, if_neg (by decide), if_neg (by decide), if_pos rfl] at hk
          first
            | (rw [if_pos ⟨c99, c107, c116⟩] at hk; exact hk)
            | (have q9 := c116; rw [if_neg (fun q => q.2.2 q9)] at hk; exact hk)
            | (have q9 := c107; rw [if_neg (fun q => q9 q.2.1)] at hk; exact hk)
            | (rw [if_neg (fun q => c99 q.1)] at hk; exact hk)
  · refine wX8_baseLimit_131 ?_
    refine wX8_baseLimit_133 (hL.B.P hi).1 ?_
    refine wX8_baseLimit_136 ?_
    refine wX8_baseLimit_137 (fun c137 => ?_) (fun c137 => ?_)
    · refine wX8_baseLimit_154 ?_
      refine wX8_baseLimit_155  ?_
      rw [l_bl, if_neg (by rintro rfl; exact absurd c21 (by decide)), if_neg (by rintro rfl; exact absurd c21 (by decide)), if_neg (by rintro rfl; exact absurd c21 (by decide))] at hk
      first
        | (rw [if_pos ⟨c137, c146⟩] at hk; exact hk)
        | (have q9 := c146; rw [if_neg (fun q => q.2 q9)] at hk; exact hk)
        | (rw [if_neg (fun q => c137 q.1)] at hk; exact hk)
    · refine wX8_baseLimit_140 ?_
      refine wX8_baseLimit_142 (hL.B.P hi).1 ?_
      refine wX8_baseLimit_145 ?_
      refine wX8_baseLimit_146 (fun c146 => ?_) (fun c146 => ?_)
      · refine wX8_baseLimit_154 ?_
        refine wX8_baseLimit_155  ?_
        rw [l_bl, if_neg (by rintro rfl; exact absurd c21 (by decide)), if_neg (by rintro rfl; exact absurd c21 (by decide)), if_neg (by rintro rfl; exact absurd c21 (by decide))] at hk
        first
          | (rw [if_pos ⟨c137, c146⟩] at hk; exact hk)
          | (have q9 := c146; rw [if_neg (fun q => q.2 q9)] at hk; exact hk)
          | (rw [if_neg (fun q => c137 q.1)] at hk; exact hk)
      · refine wX8_baseLimit_149 ?_
        refine wX8_baseLimit_151 ?_
        refine wX8_baseLimit_155  ?_
        rw [l_bl, if_neg (by rintro rfl; exact absurd c21 (by decide)), if_neg (by rintro rfl; exact absurd c21 (by decide)), if_neg (by rintro rfl; exact absurd c21 (by decide))] at hk
        first
          | (rw [if_pos ⟨c137, c146⟩] at hk; exact hk)
          | (have q9 := c146; rw [if_neg (fun q => q.2 q9)] at hk; exact hk)
          | (rw [if_neg (fun q => c137 q.1)] at hk; exact hk)
theorem mX8_signError {L : Nat} {S : q_Ls} {X : q_Lx} {j i : Nat} {r : Int32} {P : Int32 → q_H → Option Nat → Prop} (hL : isLx h L S X) (hj : j < 4) (hi : i < 24) (hk : P (l_se S j i r) h z) : QMi V iX8_signError [.ref L, .int (nI j), .int (nI i), .int r] h z P Kx := by
  refine eX8_signError ?_
  refine wX8_signError_0 ?_
  refine wX8_signError_1 ?_
  refine wX8_signError_2 ?_
  refine wX8_signError_3 hL.c (mX8_placeError hL hi ?_)
  refine wX8_signError_6 ?_
  refine wX8_signError_8 ?_
  refine wX8_signError_10 (fun c10 => ?_) (fun c10 => ?_)
  · refine wX8_signError_16 ?_
    refine wX8_signError_17 hL.c ?_
    refine wX8_signError_20 hL.B.1 ?_
    refine wX8_signError_23 hL.B.2.2.2.1 ?_
    refine wX8_signError_26 ?_
    refine wX8_signError_27 ?_
    refine wX8_signError_28 ?_
    refine wX8_signError_29 ?_
    refine wX8_signError_30 hL.c (mX8_baseLimit hL hj hi ?_)
    refine wX8_signError_33 (fun c33 => ?_) (fun c33 => ?_)
    · refine wX8_signError_40 ?_
      refine wX8_signError_42  ?_
      rw [l_se, if_pos c10] at hk
      first
        | (rw [if_pos c33] at hk; exact hk)
        | (rw [if_neg c33] at hk; exact hk)
    · refine wX8_signError_36 ?_
      refine wX8_signError_37 ?_
      refine wX8_signError_42  ?_
      rw [l_se, if_pos c10] at hk
      first
        | (rw [if_pos c33] at hk; exact hk)
        | (rw [if_neg c33] at hk; exact hk)
  · refine wX8_signError_13 ?_
    refine wX8_signError_15  ?_
    rw [l_se, if_neg c10] at hk; exact hk
theorem mX8_signCode {L : Nat} {S : q_Ls} {X : q_Lx} {t : Int32} {p : Int32} {r : Int32} {P : Int32 → q_H → Option Nat → Prop} (hL : isLx h L S X) (hS : okL S) (hk : ls_l S = true → (gT S t && gP S p && rg r 0 3) = true → ∀ j, j < 4 → t = nI j → ∀ i, i < 24 → p = nI i → P (l_se S j i r) h z) (h1 : ls_l S = false → Kx E_st h) (h2 : ls_l S = true → (gT S t && gP S p && rg r 0 3) = false → Kx E_ar h) : QMi V iX8_signCode [.ref L, .int t, .int p, .int r] h z P Kx := by
  refine eX8_signCode ?_
  refine wX8_signCode_0 ?_
  refine wX8_signCode_1 hL.c (mX8_requireLeague hL (fun hl => ?_) h1)
  refine wX8_signCode_4 ?_
  refine wX8_signCode_5 ?_
  refine wX8_signCode_6 hL.c (mX8_requireTeam hL (fun g1 => ?_) (fun g1 => h2 hl (by simp [g1])))
  obtain ⟨j, hj, rfl⟩ := gT_of hS g1
  refine wX8_signCode_9 ?_
  refine wX8_signCode_10 ?_
  refine wX8_signCode_11 hL.c (mX8_requirePlayer hL (fun g2 => ?_) (fun g2 => h2 hl (by simp [g2])))
  obtain ⟨i, hi, rfl⟩ := gP_of hS g2
  refine wX8_signCode_14 ?_
  refine wX8_signCode_15 ?_
  refine wX8_signCode_16 ?_
  refine wX8_signCode_17 (mX8_requireRange (fun g3 => ?_) (fun g3 => h2 hl (by simp [g3])))
  refine wX8_signCode_20 ?_
  refine wX8_signCode_21 ?_
  refine wX8_signCode_22 ?_
  refine wX8_signCode_23 ?_
  refine wX8_signCode_24 hL.c (mX8_signError hL hj hi ?_)
  refine wX8_signCode_27  ?_
  exact hk hl (by simp [g1, g2, g3]) j hj rfl i hi rfl
theorem mX8_greatestBase {L : Nat} {S : q_Ls} {X : q_Lx} {t : Int32} {p : Int32} {r : Int32} {P : Int32 → q_H → Option Nat → Prop} (hL : isLx h L S X) (hS : okL S) (hk : ls_l S = true → (gT S t && gP S p && rg r 0 3) = true → ∀ j, j < 4 → t = nI j → ∀ i, i < 24 → p = nI i → P (l_gb S j i r) h z) (h1 : ls_l S = false → Kx E_st h) (h2 : ls_l S = true → (gT S t && gP S p && rg r 0 3) = false → Kx E_ar h) : QMi V iX8_greatestBase [.ref L, .int t, .int p, .int r] h z P Kx := by
  refine eX8_greatestBase ?_
  refine wX8_greatestBase_0 ?_
  refine wX8_greatestBase_1 hL.c (mX8_requireLeague hL (fun hl => ?_) h1)
  refine wX8_greatestBase_4 ?_
  refine wX8_greatestBase_5 ?_
  refine wX8_greatestBase_6 hL.c (mX8_requireTeam hL (fun g1 => ?_) (fun g1 => h2 hl (by simp [g1])))
  obtain ⟨j, hj, rfl⟩ := gT_of hS g1
  refine wX8_greatestBase_9 ?_
  refine wX8_greatestBase_10 ?_
  refine wX8_greatestBase_11 hL.c (mX8_requirePlayer hL (fun g2 => ?_) (fun g2 => h2 hl (by simp [g2])))
  obtain ⟨i, hi, rfl⟩ := gP_of hS g2
  refine wX8_greatestBase_14 ?_
  refine wX8_greatestBase_15 ?_
  refine wX8_greatestBase_16 ?_
  refine wX8_greatestBase_17 (mX8_requireRange (fun g3 => ?_) (fun g3 => h2 hl (by simp [g3])))
  refine wX8_greatestBase_20 ?_
  refine wX8_greatestBase_21 ?_
  refine wX8_greatestBase_22 ?_
  refine wX8_greatestBase_23 hL.c (mX8_placeError hL hi ?_)
  refine wX8_greatestBase_26 (fun c26 => ?_) (fun c26 => ?_)
  · refine wX8_greatestBase_32 ?_
    refine wX8_greatestBase_33 ?_
    refine wX8_greatestBase_34 ?_
    refine wX8_greatestBase_35 ?_
    refine wX8_greatestBase_36 hL.c (mX8_baseLimit hL hj hi ?_)
    refine wX8_greatestBase_39 ?_
    refine wX8_greatestBase_41 ?_
    refine wX8_greatestBase_44 ?_
    refine wX8_greatestBase_46 ?_
    refine wX8_greatestBase_48 ?_
    refine wX8_greatestBase_49 (fun c49 => ?_) (fun c49 => ?_)
    · refine wX8_greatestBase_57 ?_
      refine wX8_greatestBase_59  ?_
      have hk := (hk hl (by simp [g1, g2, g3]) j hj rfl i hi rfl)
      rw [l_gb, if_pos c26] at hk
      first
        | (rw [if_pos c49] at hk; exact hk)
        | (rw [if_neg c49] at hk; exact hk)
    · refine wX8_greatestBase_52 ?_
      refine wX8_greatestBase_54 ?_
      refine wX8_greatestBase_59  ?_
      have hk := (hk hl (by simp [g1, g2, g3]) j hj rfl i hi rfl)
      rw [l_gb, if_pos c26] at hk
      first
        | (rw [if_pos c49] at hk; exact hk)
        | (rw [if_neg c49] at hk; exact hk)
  · refine wX8_greatestBase_29 ?_
    refine wX8_greatestBase_31  ?_
    have hk := (hk hl (by simp [g1, g2, g3]) j hj rfl i hi rfl)
    rw [l_gb, if_neg c26] at hk; exact hk
theorem mX8_bestRule_lp {L : Nat} {S : q_Ls} {X : q_Lx} {j i : Nat} {P : Int32 → q_H → Option Nat → Prop} (hL : isLx h L S X) (hj : j < 4) (hi : i < 24) : ∀ n k, k + n = 4 → P (l_br S j i n k) h z → QW V iX8_bestRule 16 [some (.ref L), some (.int (nI j)), some (.int (nI i)), some (.int (nI k))] [] h z 0 0 (q_Ki P) Kx := by
  intro n
  induction n with
  | zero =>
    intro k hkn hk
    refine wX8_bestRule_16 ?_
    refine wX8_bestRule_17 ?_
    refine wX8_bestRule_18 (fun c18 => ?_) (fun c18 => absurd (by rw [← Int32.not_le]; exact nI_ge (show 3 < k by omega) (by omega)) c18)
    refine wX8_bestRule_39 ?_
    refine wX8_bestRule_41  ?_
    exact hk
  | succ n ih =>
    intro k hkn hk
    refine wX8_bestRule_16 ?_
    refine wX8_bestRule_17 ?_
    refine wX8_bestRule_18 (fun c18 => absurd c18 (by rw [Int32.not_lt]; exact nI_le (b := 3) (by omega) (by decide))) (fun c18 => ?_)
    refine wX8_bestRule_21 ?_
    refine wX8_bestRule_22 ?_
    refine wX8_bestRule_23 ?_
    refine wX8_bestRule_24 ?_
    refine wX8_bestRule_25 hL.c (mX8_signError hL hj hi ?_)
    refine wX8_bestRule_28 (fun c28 => ?_) (fun c28 => ?_)
    · refine wX8_bestRule_33 ?_
      refine wX8_bestRule_36 ?_
      rw [l_br, if_neg c28] at hk
      exact q_ls (by rw [nI_1]) (ih (k + 1) (by omega) hk)
    · refine wX8_bestRule_31 ?_
      refine wX8_bestRule_32  ?_
      rw [l_br, if_pos c28] at hk; exact hk
theorem mX8_bestRule {L : Nat} {S : q_Ls} {X : q_Lx} {t : Int32} {p : Int32} {P : Int32 → q_H → Option Nat → Prop} (hL : isLx h L S X) (hS : okL S) (hk : ls_l S = true → (gT S t && gP S p) = true → ∀ j, j < 4 → t = nI j → ∀ i, i < 24 → p = nI i → P (l_br S j i 4 0) h z) (h1 : ls_l S = false → Kx E_st h) (h2 : ls_l S = true → (gT S t && gP S p) = false → Kx E_ar h) : QMi V iX8_bestRule [.ref L, .int t, .int p] h z P Kx := by
  refine eX8_bestRule ?_
  refine wX8_bestRule_0 ?_
  refine wX8_bestRule_1 hL.c (mX8_requireLeague hL (fun hl => ?_) h1)
  refine wX8_bestRule_4 ?_
  refine wX8_bestRule_5 ?_
  refine wX8_bestRule_6 hL.c (mX8_requireTeam hL (fun g1 => ?_) (fun g1 => h2 hl (by simp [g1])))
  obtain ⟨j, hj, rfl⟩ := gT_of hS g1
  refine wX8_bestRule_9 ?_
  refine wX8_bestRule_10 ?_
  refine wX8_bestRule_11 hL.c (mX8_requirePlayer hL (fun g2 => ?_) (fun g2 => h2 hl (by simp [g2])))
  obtain ⟨i, hi, rfl⟩ := gP_of hS g2
  refine wX8_bestRule_14 ?_
  refine wX8_bestRule_15 ?_
  exact mX8_bestRule_lp hL hj hi 4 0 (by omega) (hk hl (by simp [g1, g2]) j hj rfl i hi rfl)
end CX8b

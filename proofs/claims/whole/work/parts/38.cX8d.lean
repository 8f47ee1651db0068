/-! SalaryCapLedger: trades, taxes ahead -/
section CX8d
variable {V : q_En} {h : q_H} {z : Option Nat} {Kx : q_KX}
def l_lim (S : q_Ls) (ch out : Int32) : Int64 := if te_li (ls_T S) (b_w (ls_B S)) < ch then out.toInt64 * 110 / 100 else out.toInt64 * 125 / 100 + 100
def l_sm (S : q_Ls) (ch lv cm : Int32) : Bool := if te_ci (ls_T S) (b_w (ls_B S)) < ch + b_cc (ls_B S) lv cm then decide (¬ l_lim S ch (b_sn (ls_B S) lv) < (b_sn (ls_B S) cm).toInt64) else true
def l_sw (S : q_Ls) (c p d r : Int32) : Bool := l_sm S c ((1 : Int32) <<< (p &&& 31)) ((1 : Int32) <<< (r &&& 31)) && l_sm S d ((1 : Int32) <<< (r &&& 31)) ((1 : Int32) <<< (p &&& 31))
def l_te (S : q_Ls) (j : Nat) (s : Int32) (m : Nat) (v : Int32) : Int32 :=
  if s = 0 ∧ v = 0 then -2
  else if ¬ s &&& (b_set (ls_B S) (nI j) 24 ^^^ -1) = 0 ∨ ¬ v &&& (b_set (ls_B S) (nI m) 24 ^^^ -1) = 0 then -3
  else if 12 < q_bc (b_set (ls_B S) (nI j) 24) - q_bc s + q_bc v ∨ 12 < q_bc (b_set (ls_B S) (nI m) 24) - q_bc v + q_bc s then -4
  else if l_sm S (b_ch (ls_B S) j (b_w (ls_B S))) s v = true then (if l_sm S (b_ch (ls_B S) m (b_w (ls_B S))) v s = true then 0 else -6) else -5
def l_ta (S : q_Ls) (j : Nat) : Nat → Int32 × Int64
  | 0 => (t_x (b_t (ls_B S) j), 0)
  | k + 1 => (if te_tx (ls_T S) (b_ch (ls_B S) j (b_w (ls_B S) + nI k)) (b_w (ls_B S) + nI k) = true then (l_ta S j k).1 ||| ((1 : Int32) <<< ((b_w (ls_B S) + nI k) &&& 31)) else (l_ta S j k).1, (l_ta S j k).2 + te_tax (ls_T S) (b_ch (ls_B S) j (b_w (ls_B S) + nI k)) (b_w (ls_B S) + nI k) (l_ta S j k).1)
theorem mX8_salariesMatch {L : Nat} {S : q_Ls} {X : q_Lx} {ch lv cm : Int32} {P : Int32 → q_H → Option Nat → Prop} (hL : isLx h L S X) (hk : P (q_b (l_sm S ch lv cm)) h z) : QMi V iX8_salariesMatch [.ref L, .int ch, .int lv, .int cm] h z P Kx := by
  refine eX8_salariesMatch ?_
  refine wX8_salariesMatch_0 ?_
  refine wX8_salariesMatch_1 ?_
  refine wX8_salariesMatch_2 hL.c ?_
  refine wX8_salariesMatch_5 ?_
  refine wX8_salariesMatch_6 ?_
  refine wX8_salariesMatch_7 hL.B.1 (mX0_chargeChange hL.B ?_)
  refine wX8_salariesMatch_10 ?_
  refine wX8_salariesMatch_11 ?_
  refine wX8_salariesMatch_12 hL.c ?_
  refine wX8_salariesMatch_15 ?_
  refine wX8_salariesMatch_16 hL.c ?_
  refine wX8_salariesMatch_19 hL.B.1 ?_
  refine wX8_salariesMatch_22 hL.E.1 (mX7_capIn hL.E ?_)
  refine wX8_salariesMatch_25 (fun c25 => ?_) (fun c25 => ?_)
  · refine wX8_salariesMatch_30 ?_
    refine wX8_salariesMatch_31 hL.c ?_
    refine wX8_salariesMatch_34 ?_
    refine wX8_salariesMatch_35 hL.B.1 (mX0_salariesNow hL.B ?_)
    refine wX8_salariesMatch_38 ?_
    refine wX8_salariesMatch_39 ?_
    refine wX8_salariesMatch_41 ?_
    refine wX8_salariesMatch_42 ?_
    refine wX8_salariesMatch_43 hL.c ?_
    refine wX8_salariesMatch_46 ?_
    refine wX8_salariesMatch_47 hL.c ?_
    refine wX8_salariesMatch_50 hL.B.1 ?_
    refine wX8_salariesMatch_53 hL.E.1 (mX7_taxLineIn hL.E ?_)
    refine wX8_salariesMatch_56 (fun c56 => ?_) (fun c56 => ?_)
    · refine wX8_salariesMatch_76 ?_
      refine wX8_salariesMatch_78 ?_
      refine wX8_salariesMatch_81 ?_
      refine wX8_salariesMatch_82 ?_
      refine wX8_salariesMatch_85 (by decide) ?_
      refine wX8_salariesMatch_86 ?_
      refine wX8_salariesMatch_88 ?_
      refine wX8_salariesMatch_89 hL.c ?_
      refine wX8_salariesMatch_92 ?_
      refine wX8_salariesMatch_93 hL.B.1 (mX0_salariesNow hL.B ?_)
      refine wX8_salariesMatch_96 ?_
      refine wX8_salariesMatch_97 ?_
      refine wX8_salariesMatch_99 (fun c99 => ?_) (fun c99 => ?_)
      · refine wX8_salariesMatch_107 ?_
        refine wX8_salariesMatch_108  ?_
        rw [l_sm, if_pos c25, l_lim] at hk
        first
          | (rw [if_pos c56, decide_eq_true c99] at hk; exact hk)
          | (rw [if_pos c56, decide_eq_false (not_not_intro c99)] at hk; exact hk)
          | (rw [if_neg c56, decide_eq_true c99] at hk; exact hk)
          | (rw [if_neg c56, decide_eq_false (not_not_intro c99)] at hk; exact hk)
      · refine wX8_salariesMatch_103 ?_
        refine wX8_salariesMatch_104 ?_
        refine wX8_salariesMatch_108  ?_
        rw [l_sm, if_pos c25, l_lim] at hk
        first
          | (rw [if_pos c56, decide_eq_true c99] at hk; exact hk)
          | (rw [if_pos c56, decide_eq_false (not_not_intro c99)] at hk; exact hk)
          | (rw [if_neg c56, decide_eq_true c99] at hk; exact hk)
          | (rw [if_neg c56, decide_eq_false (not_not_intro c99)] at hk; exact hk)
    · refine wX8_salariesMatch_59 ?_
      refine wX8_salariesMatch_61 ?_
      refine wX8_salariesMatch_64 ?_
      refine wX8_salariesMatch_65 ?_
      refine wX8_salariesMatch_68 (by decide) ?_
      refine wX8_salariesMatch_69 ?_
      refine wX8_salariesMatch_72 ?_
      refine wX8_salariesMatch_73 ?_
      refine wX8_salariesMatch_86 ?_
      refine wX8_salariesMatch_88 ?_
      refine wX8_salariesMatch_89 hL.c ?_
      refine wX8_salariesMatch_92 ?_
      refine wX8_salariesMatch_93 hL.B.1 (mX0_salariesNow hL.B ?_)
      refine wX8_salariesMatch_96 ?_
      refine wX8_salariesMatch_97 ?_
      refine wX8_salariesMatch_99 (fun c99 => ?_) (fun c99 => ?_)
      · refine wX8_salariesMatch_107 ?_
        refine wX8_salariesMatch_108  ?_
        rw [l_sm, if_pos c25, l_lim] at hk
        first
          | (rw [if_pos c56, decide_eq_true c99] at hk; exact hk)
          | (rw [if_pos c56, decide_eq_false (not_not_intro c99)] at hk; exact hk)
          | (rw [if_neg c56, decide_eq_true c99] at hk; exact hk)
          | (rw [if_neg c56, decide_eq_false (not_not_intro c99)] at hk; exact hk)
      · refine wX8_salariesMatch_103 ?_
        refine wX8_salariesMatch_104 ?_
        refine wX8_salariesMatch_108  ?_
        rw [l_sm, if_pos c25, l_lim] at hk
        first
          | (rw [if_pos c56, decide_eq_true c99] at hk; exact hk)
          | (rw [if_pos c56, decide_eq_false (not_not_intro c99)] at hk; exact hk)
          | (rw [if_neg c56, decide_eq_true c99] at hk; exact hk)
          | (rw [if_neg c56, decide_eq_false (not_not_intro c99)] at hk; exact hk)
  · refine wX8_salariesMatch_28 ?_
    refine wX8_salariesMatch_29  ?_
    rw [l_sm, if_neg c25] at hk; exact hk
theorem mX8_swapMatches {L : Nat} {S : q_Ls} {X : q_Lx} {c p d r : Int32} {P : Int32 → q_H → Option Nat → Prop} (hL : isLx h L S X) (hk : P (q_b (l_sw S c p d r)) h z) : QMi V iX8_swapMatches [.ref L, .int c, .int p, .int d, .int r] h z P Kx := by
  refine eX8_swapMatches ?_
  refine wX8_swapMatches_0 ?_
  refine wX8_swapMatches_1 ?_
  refine wX8_swapMatches_2 ?_
  refine wX8_swapMatches_3 ?_
  refine wX8_swapMatches_4 ?_
  refine wX8_swapMatches_5 ?_
  refine wX8_swapMatches_6 ?_
  refine wX8_swapMatches_8 ?_
  refine wX8_swapMatches_9 hL.c (mX8_salariesMatch hL ?_)
  refine wX8_swapMatches_12 (fun c12 => ?_) (fun c12 => ?_)
  · refine wX8_swapMatches_34 ?_
    refine wX8_swapMatches_35  ?_
    refine q_cv ?_ hk
    first
      | (have q9 := q_b0 c12; rw [l_sw, q9]; rfl)
      | (have q9 := q_b1 c27; rw [l_sw, q_b1 c12, q9]; rfl)
      | (have q9 := q_b0 c27; rw [l_sw, q_b1 c12, q9]; rfl)
  · refine wX8_swapMatches_15 ?_
    refine wX8_swapMatches_16 ?_
    refine wX8_swapMatches_17 ?_
    refine wX8_swapMatches_18 ?_
    refine wX8_swapMatches_20 ?_
    refine wX8_swapMatches_21 ?_
    refine wX8_swapMatches_22 ?_
    refine wX8_swapMatches_23 ?_
    refine wX8_swapMatches_24 hL.c (mX8_salariesMatch hL ?_)
    refine wX8_swapMatches_27 (fun c27 => ?_) (fun c27 => ?_)
    · refine wX8_swapMatches_34 ?_
      refine wX8_swapMatches_35  ?_
      refine q_cv ?_ hk
      first
        | (have q9 := q_b0 c12; rw [l_sw, q9]; rfl)
        | (have q9 := q_b1 c27; rw [l_sw, q_b1 c12, q9]; rfl)
        | (have q9 := q_b0 c27; rw [l_sw, q_b1 c12, q9]; rfl)
    · refine wX8_swapMatches_30 ?_
      refine wX8_swapMatches_31 ?_
      refine wX8_swapMatches_35  ?_
      refine q_cv ?_ hk
      first
        | (have q9 := q_b0 c12; rw [l_sw, q9]; rfl)
        | (have q9 := q_b1 c27; rw [l_sw, q_b1 c12, q9]; rfl)
        | (have q9 := q_b0 c27; rw [l_sw, q_b1 c12, q9]; rfl)
theorem mX8_tradeError {L : Nat} {S : q_Ls} {X : q_Lx} {j m : Nat} {s v : Int32} {P : Int32 → q_H → Option Nat → Prop} (hL : isLx h L S X) (hj : j < 4) (hm : m < 4) (hk : P (l_te S j s m v) h z) : QMi V iX8_tradeError [.ref L, .int (nI j), .int s, .int (nI m), .int v] h z P Kx := by
  refine eX8_tradeError ?_
  refine wX8_tradeError_0 ?_
  refine wX8_tradeError_1 hL.c ?_
  refine wX8_tradeError_4 ?_
  refine wX8_tradeError_5 hL.B.1 (mX0_playersOf hL.B ?_)
  refine wX8_tradeError_8 ?_
  refine wX8_tradeError_10 ?_
  refine wX8_tradeError_11 hL.c ?_
  refine wX8_tradeError_14 ?_
  refine wX8_tradeError_15 hL.B.1 (mX0_playersOf hL.B ?_)
  refine wX8_tradeError_18 ?_
  refine wX8_tradeError_20 ?_
  refine wX8_tradeError_21 (fun c21 => ?_) (fun c21 => ?_)
  · have e1 : ¬ (s = 0 ∧ v = 0) := by
      first
        | exact fun q => c26 q.2
        | exact fun q => c21 q.1
    refine wX8_tradeError_32 ?_
    refine wX8_tradeError_33 ?_
    refine wX8_tradeError_35 ?_
    refine wX8_tradeError_36 ?_
    refine wX8_tradeError_37 ?_
    refine wX8_tradeError_38 (fun c38 => ?_) (fun c38 => ?_)
    · refine wX8_tradeError_51 ?_
      refine wX8_tradeError_53  ?_
      have e2 : ¬ s &&& (b_set (ls_B S) (nI j) 24 ^^^ -1) = 0 ∨ ¬ v &&& (b_set (ls_B S) (nI m) 24 ^^^ -1) = 0 := by
        first
          | exact Or.inr c48
          | exact Or.inl c38
      rw [l_te, if_neg e1, if_pos e2] at hk; exact hk
    · refine wX8_tradeError_41 ?_
      refine wX8_tradeError_43 ?_
      refine wX8_tradeError_45 ?_
      refine wX8_tradeError_46 ?_
      refine wX8_tradeError_47 ?_
      refine wX8_tradeError_48 (fun c48 => ?_) (fun c48 => ?_)
      · have e2 : ¬ (¬ s &&& (b_set (ls_B S) (nI j) 24 ^^^ -1) = 0 ∨ ¬ v &&& (b_set (ls_B S) (nI m) 24 ^^^ -1) = 0) := fun q => q.elim (fun q => q c38) (fun q => q c48)
        refine wX8_tradeError_54 ?_
        refine wX8_tradeError_55 (mJ6_bitCount_0f7a4 ?_)
        refine wX8_tradeError_58 ?_
        refine wX8_tradeError_60 ?_
        refine wX8_tradeError_62 (mJ6_bitCount_0f7a4 ?_)
        refine wX8_tradeError_65 ?_
        refine wX8_tradeError_67 ?_
        refine wX8_tradeError_69 (mJ6_bitCount_0f7a4 ?_)
        refine wX8_tradeError_72 ?_
        refine wX8_tradeError_74 ?_
        refine wX8_tradeError_75 ?_
        refine wX8_tradeError_77 ?_
        refine wX8_tradeError_78 ?_
        refine wX8_tradeError_80 (fun c80 => ?_) (fun c80 => ?_)
        · refine wX8_tradeError_99 ?_
          refine wX8_tradeError_101  ?_
          have e3 : 12 < q_bc (b_set (ls_B S) (nI j) 24) - q_bc s + q_bc v ∨ 12 < q_bc (b_set (ls_B S) (nI m) 24) - q_bc v + q_bc s := by
            first
              | exact Or.inr (Int32.not_le.mp c96)
              | exact Or.inl c80
          rw [l_te, if_neg e1, if_neg e2, if_pos e3] at hk; exact hk
        · refine wX8_tradeError_83 ?_
          refine wX8_tradeError_85 (mJ6_bitCount_0f7a4 ?_)
          refine wX8_tradeError_88 ?_
          refine wX8_tradeError_90 ?_
          refine wX8_tradeError_91 ?_
          refine wX8_tradeError_93 ?_
          refine wX8_tradeError_94 ?_
          refine wX8_tradeError_96 (fun c96 => ?_) (fun c96 => ?_)
          · have e3 : ¬ (12 < q_bc (b_set (ls_B S) (nI j) 24) - q_bc s + q_bc v ∨ 12 < q_bc (b_set (ls_B S) (nI m) 24) - q_bc v + q_bc s) := fun q => q.elim c80 (Int32.not_lt.mpr c96)
            refine wX8_tradeError_102 ?_
            refine wX8_tradeError_103 ?_
            refine wX8_tradeError_104 hL.c ?_
            refine wX8_tradeError_107 ?_
            refine wX8_tradeError_108 hL.B.1 (mX0_chargeNow hL.B hj ?_)
            refine wX8_tradeError_111 ?_
            refine wX8_tradeError_112 ?_
            refine wX8_tradeError_114 hL.c (mX8_salariesMatch hL ?_)
            refine wX8_tradeError_117 (fun c117 => ?_) (fun c117 => ?_)
            · refine wX8_tradeError_123 ?_
              refine wX8_tradeError_124 ?_
              refine wX8_tradeError_125 hL.c ?_
              refine wX8_tradeError_128 ?_
              refine wX8_tradeError_129 hL.B.1 (mX0_chargeNow hL.B hm ?_)
              refine wX8_tradeError_132 ?_
              refine wX8_tradeError_134 ?_
              refine wX8_tradeError_135 hL.c (mX8_salariesMatch hL ?_)
              refine wX8_tradeError_138 (fun c138 => ?_) (fun c138 => ?_)
              · refine wX8_tradeError_145 ?_
                refine wX8_tradeError_147  ?_
                rw [l_te, if_neg e1, if_neg e2, if_neg e3, if_pos (q_b1 c117)] at hk
                first
                  | (have q9 := q_b1 c138; rw [if_pos q9] at hk; exact hk)
                  | (have q9 := q_b0 c138; rw [if_neg (by rw [q9]; decide)] at hk; exact hk)
              · refine wX8_tradeError_141 ?_
                refine wX8_tradeError_142 ?_
                refine wX8_tradeError_147  ?_
                rw [l_te, if_neg e1, if_neg e2, if_neg e3, if_pos (q_b1 c117)] at hk
                first
                  | (have q9 := q_b1 c138; rw [if_pos q9] at hk; exact hk)
                  | (have q9 := q_b0 c138; rw [if_neg (by rw [q9]; decide)] at hk; exact hk)
            · refine wX8_tradeError_120 ?_
              refine wX8_tradeError_122  ?_
              rw [l_te, if_neg e1, if_neg e2, if_neg e3, if_neg (by rw [q_b0 c117]; decide)] at hk; exact hk
          · refine wX8_tradeError_99 ?_
            refine wX8_tradeError_101  ?_
            have e3 : 12 < q_bc (b_set (ls_B S) (nI j) 24) - q_bc s + q_bc v ∨ 12 < q_bc (b_set (ls_B S) (nI m) 24) - q_bc v + q_bc s := by
              first
                | exact Or.inr (Int32.not_le.mp c96)
                | exact Or.inl c80
            rw [l_te, if_neg e1, if_neg e2, if_pos e3] at hk; exact hk
      · refine wX8_tradeError_51 ?_
        refine wX8_tradeError_53  ?_
        have e2 : ¬ s &&& (b_set (ls_B S) (nI j) 24 ^^^ -1) = 0 ∨ ¬ v &&& (b_set (ls_B S) (nI m) 24 ^^^ -1) = 0 := by
          first
            | exact Or.inr c48
            | exact Or.inl c38
        rw [l_te, if_neg e1, if_pos e2] at hk; exact hk
  · refine wX8_tradeError_24 ?_
    refine wX8_tradeError_26 (fun c26 => ?_) (fun c26 => ?_)
    · have e1 : ¬ (s = 0 ∧ v = 0) := by
        first
          | exact fun q => c26 q.2
          | exact fun q => c21 q.1
      refine wX8_tradeError_32 ?_
      refine wX8_tradeError_33 ?_
      refine wX8_tradeError_35 ?_
      refine wX8_tradeError_36 ?_
      refine wX8_tradeError_37 ?_
      refine wX8_tradeError_38 (fun c38 => ?_) (fun c38 => ?_)
      · refine wX8_tradeError_51 ?_
        refine wX8_tradeError_53  ?_
        have e2 : ¬ s &&& (b_set (ls_B S) (nI j) 24 ^^^ -1) = 0 ∨ ¬ v &&& (b_set (ls_B S) (nI m) 24 ^^^ -1) = 0 := by
          first
            | exact Or.inr c48
            | exact Or.inl c38
        rw [l_te, if_neg e1, if_pos e2] at hk; exact hk
      · refine wX8_tradeError_41 ?_
        refine wX8_tradeError_43 ?_
        refine wX8_tradeError_45 ?_
        refine wX8_tradeError_46 ?_
        refine wX8_tradeError_47 ?_
        refine wX8_tradeError_48 (fun c48 => ?_) (fun c48 => ?_)
        · have e2 : ¬ (¬ s &&& (b_set (ls_B S) (nI j) 24 ^^^ -1) = 0 ∨ ¬ v &&& (b_set (ls_B S) (nI m) 24 ^^^ -1) = 0) := fun q => q.elim (fun q => q c38) (fun q => q c48)
          refine wX8_tradeError_54 ?_
          refine wX8_tradeError_55 (mJ6_bitCount_0f7a4 ?_)
          refine wX8_tradeError_58 ?_
          refine wX8_tradeError_60 ?_
          refine wX8_tradeError_62 (mJ6_bitCount_0f7a4 ?_)
          refine wX8_tradeError_65 ?_
          refine wX8_tradeError_67 ?_
          refine wX8_tradeError_69 (mJ6_bitCount_0f7a4 ?_)
          refine wX8_tradeError_72 ?_
          refine wX8_tradeError_74 ?_
          refine wX8_tradeError_75 ?_
          refine wX8_tradeError_77 ?_
          refine wX8_tradeError_78 ?_
          refine wX8_tradeError_80 (fun c80 => ?_) (fun c80 => ?_)
          · refine wX8_tradeError_99 ?_
            refine wX8_tradeError_101  ?_
            have e3 : 12 < q_bc (b_set (ls_B S) (nI j) 24) - q_bc s + q_bc v ∨ 12 < q_bc (b_set (ls_B S) (nI m) 24) - q_bc v + q_bc s := by
              first
                | exact Or.inr (Int32.not_le.mp c96)
                | exact Or.inl c80
            rw [l_te, if_neg e1, if_neg e2, if_pos e3] at hk; exact hk
          · refine wX8_tradeError_83 ?_
            refine wX8_tradeError_85 (mJ6_bitCount_0f7a4 ?_)
            refine wX8_tradeError_88 ?_
            refine wX8_tradeError_90 ?_
            refine wX8_tradeError_91 ?_
            refine wX8_tradeError_93 ?_
            refine wX8_tradeError_94 ?_
            refine wX8_tradeError_96 (fun c96 => ?_) (fun c96 => ?_)
            · have e3 : ¬ (12 < q_bc (b_set (ls_B S) (nI j) 24) - q_bc s + q_bc v ∨ 12 < q_bc (b_set (ls_B S) (nI m) 24) - q_bc v + q_bc s) := fun q => q.elim c80 (Int32.not_lt.mpr c96)
              refine wX8_tradeError_102 ?_
              refine wX8_tradeError_103 ?_
              refine wX8_tradeError_104 hL.c ?_
              refine wX8_tradeError_107 ?_
              refine wX8_tradeError_108 hL.B.1 (mX0_chargeNow hL.B hj ?_)
              refine wX8_tradeError_111 ?_
              refine wX8_tradeError_112 ?_
              refine wX8_tradeError_114 hL.c (mX8_salariesMatch hL ?_)
              refine wX8_tradeError_117 (fun c117 => ?_) (fun c117 => ?_)
              · refine wX8_tradeError_123 ?_
                refine wX8_tradeError_124 ?_
                refine wX8_tradeError_125 hL.c ?_
                refine wX8_tradeError_128 ?_
                refine wX8_tradeError_129 hL.B.1 (mX0_chargeNow hL.B hm ?_)
                refine wX8_tradeError_132 ?_
                refine wX8_tradeError_134 ?_
                refine wX8_tradeError_135 hL.c (mX8_salariesMatch hL ?_)
                refine wX8_tradeError_138 (fun c138 => ?_) (fun c138 => ?_)
                · refine wX8_tradeError_145 ?_
                  refine wX8_tradeError_147  ?_
                  rw [l_te, if_neg e1, if_neg e2, if_neg e3, if_pos (q_b1 c117)] at hk
                  first
                    | (have q9 := q_b1 c138; rw [if_pos q9] at hk; exact hk)
                    | (have q9 := q_b0 c138; rw [if_neg (by rw [q9]; decide)] at hk; exact hk)
                · refine wX8_tradeError_141 ?_
                  refine wX8_tradeError_142 ?_
                  refine wX8_tradeError_147  ?_
                  rw [l_te, if_neg e1, if_neg e2, if_neg e3, if_pos (q_b1 c117)] at hk
                  first
                    | (have q9 := q_b1 c138; rw [if_pos q9] at hk; exact hk)
                    | (have q9 := q_b0 c138; rw [if_neg (by rw [q9]; decide)] at hk; exact hk)
              · refine wX8_tradeError_120 ?_
                refine wX8_tradeError_122  ?_
                rw [l_te, if_neg e1, if_neg e2, if_neg e3, if_neg (by rw [q_b0 c117]; decide)] at hk; exact hk
            · refine wX8_tradeError_99 ?_
              refine wX8_tradeError_101  ?_
              have e3 : 12 < q_bc (b_set (ls_B S) (nI j) 24) - q_bc s + q_bc v ∨ 12 < q_bc (b_set (ls_B S) (nI m) 24) - q_bc v + q_bc s := by
                first
                  | exact Or.inr (Int32.not_le.mp c96)
                  | exact Or.inl c80
              rw [l_te, if_neg e1, if_neg e2, if_pos e3] at hk; exact hk
        · refine wX8_tradeError_51 ?_
          refine wX8_tradeError_53  ?_
          have e2 : ¬ s &&& (b_set (ls_B S) (nI j) 24 ^^^ -1) = 0 ∨ ¬ v &&& (b_set (ls_B S) (nI m) 24 ^^^ -1) = 0 := by
            first
              | exact Or.inr c48
              | exact Or.inl c38
          rw [l_te, if_neg e1, if_pos e2] at hk; exact hk
    · refine wX8_tradeError_29 ?_
      refine wX8_tradeError_31  ?_
      rw [l_te, if_pos ⟨c21, c26⟩] at hk; exact hk
theorem g2T_of {S : q_Ls} {t u : Int32} (hS : okL S) (hg : g2T S t u = true) : (∃ j, j < 4 ∧ t = nI j) ∧ ∃ m, m < 4 ∧ u = nI m := by
  simp only [g2T, Bool.and_eq_true] at hg
  exact ⟨gT_of hS hg.1.1, gT_of hS hg.1.2⟩
theorem gTr_of {S : q_Ls} {t s u v : Int32} (hS : okL S) (hg : gTr S t s u v = true) : (∃ j, j < 4 ∧ t = nI j) ∧ ∃ m, m < 4 ∧ u = nI m := by
  simp only [gTr, Bool.and_eq_true] at hg
  exact g2T_of hS hg.1.1
theorem mX8_tradeCode {L : Nat} {S : q_Ls} {X : q_Lx} {t s u v : Int32} {P : Int32 → q_H → Option Nat → Prop} (hL : isLx h L S X) (hS : okL S) (hk : ls_l S = true → gTr S t s u v = true → ∀ j m, j < 4 → m < 4 → t = nI j → u = nI m → P (l_te S j s m v) h z) (h1 : ls_l S = false → Kx E_st h) (h2 : ls_l S = true → gTr S t s u v = false → Kx E_ar h) : QMi V iX8_tradeCode [.ref L, .int t, .int s, .int u, .int v] h z P Kx := by
  refine eX8_tradeCode ?_
  refine wX8_tradeCode_0 ?_
  refine wX8_tradeCode_1 hL.c (mX8_requireLeague hL (fun hl => ?_) h1)
  refine wX8_tradeCode_4 ?_
  refine wX8_tradeCode_5 ?_
  refine wX8_tradeCode_6 ?_
  refine wX8_tradeCode_7 ?_
  refine wX8_tradeCode_8 ?_
  refine wX8_tradeCode_10 hL.c (mX8_requireTrade hL (fun g1 => ?_) (h2 hl))
  obtain ⟨⟨j, hj, rfl⟩, m, hm, rfl⟩ := gTr_of hS g1
  refine wX8_tradeCode_13 ?_
  refine wX8_tradeCode_14 ?_
  refine wX8_tradeCode_15 ?_
  refine wX8_tradeCode_16 ?_
  refine wX8_tradeCode_17 ?_
  refine wX8_tradeCode_19 hL.c (mX8_tradeError hL hj hm ?_)
  refine wX8_tradeCode_22  ?_
  exact hk hl g1 j m hj hm rfl rfl
theorem rg18 {x : Int32} (hg : rg x 1 8 = true) : ∃ n, 1 ≤ n ∧ n ≤ 8 ∧ x = nI n := by
  have hg := of_decide_eq_true hg
  obtain ⟨j, hj, e⟩ := q_of (N := 9) (n := 9) rfl (by decide) (x := x) (fun q => hg.1 (Int32.lt_trans q (by decide))) (fun q => absurd (Int32.le_trans q hg.2) (by decide))
  subst e
  refine ⟨j, ?_, by omega, rfl⟩
  by_cases q : j = 0
  · subst q; exact absurd (by decide) hg.1
  · omega
theorem mX8_taxAhead {L : Nat} {S : q_Ls} {X : q_Lx} {t x : Int32} {P : Int64 → q_H → Option Nat → Prop} (hL : isLx h L S X) (hS : okL S) (hk : ls_l S = true → (gT S t && rg x 1 8) = true → ∀ j n, j < 4 → 1 ≤ n → n ≤ 8 → t = nI j → x = nI n → P (l_ta S j n).2 h z) (h1 : ls_l S = false → Kx E_st h) (h2 : ls_l S = true → (gT S t && rg x 1 8) = false → Kx E_ar h) : QMl V iX8_taxAhead [.ref L, .int t, .int x] h z P Kx := by
  refine eX8_taxAhead ?_
  refine wX8_taxAhead_0 ?_
  refine wX8_taxAhead_1 hL.c (mX8_requireLeague hL (fun hl => ?_) h1)
  refine wX8_taxAhead_4 ?_
  refine wX8_taxAhead_5 ?_
  refine wX8_taxAhead_6 hL.c (mX8_requireTeam hL (fun g1 => ?_) (fun g1 => h2 hl (by simp [g1])))
  obtain ⟨j, hj, rfl⟩ := gT_of hS g1
  refine wX8_taxAhead_9 ?_
  refine wX8_taxAhead_10 ?_
  refine wX8_taxAhead_11 ?_
  refine wX8_taxAhead_13 (mX8_requireRange (fun g2 => ?_) (fun g2 => h2 hl (by simp [g2])))
  obtain ⟨n, hn1, hn8, rfl⟩ := rg18 g2
  obtain ⟨bn, hb4, hbn⟩ := hS.2.1
  refine wX8_taxAhead_16 ?_
  refine wX8_taxAhead_17 hL.c ?_
  refine wX8_taxAhead_20 hL.B.1 ?_
  refine wX8_taxAhead_23 ?_
  refine wX8_taxAhead_24 (t := 5) rfl hL.B.2.2.1 rfl hj (by decide) (if_pos hj) ?_
  refine wX8_taxAhead_25 (hL.B.T hj).1 ?_
  refine wX8_taxAhead_28 ?_
  refine wX8_taxAhead_29 ?_
  refine wX8_taxAhead_30 ?_
  refine wX8_taxAhead_32 ?_
  refine wX8_taxAhead_33 ?_
  refine q_for (P := fun k => QW V iX8_taxAhead 35 [some (.ref L), some (.int (nI j)), some (.int (nI n)), some (.int (l_ta S j k).1), some (.long (l_ta S j k).2), none, some (.int (nI k)), none, none] [] h z 0 0 (q_Kl P) Kx) n ?_ (fun k hkn ih => ?_)
  · refine wX8_taxAhead_35 ?_
    refine wX8_taxAhead_37 ?_
    refine wX8_taxAhead_38 (fun c38 => ?_) (fun c38 => absurd (nI_le (Nat.le_refl _) (by omega)) c38)
    refine wX8_taxAhead_109 ?_
    refine wX8_taxAhead_111  ?_
    exact hk hl (by simp [g1, g2]) j n hj hn1 hn8 rfl rfl
  · refine wX8_taxAhead_35 ?_
    refine wX8_taxAhead_37 ?_
    refine wX8_taxAhead_38 (fun c38 => absurd c38 (nI_ge hkn (by omega))) (fun c38 => ?_)
    refine wX8_taxAhead_41 ?_
    refine wX8_taxAhead_42 hL.c ?_
    refine wX8_taxAhead_45 hL.B.1 ?_
    refine wX8_taxAhead_48 ?_
    refine wX8_taxAhead_50 ?_
    refine wX8_taxAhead_51 ?_
    refine wX8_taxAhead_53 ?_
    refine wX8_taxAhead_54 hL.c ?_
    refine wX8_taxAhead_57 ?_
    refine wX8_taxAhead_58 ?_
    refine wX8_taxAhead_60 hL.B.1 (mX0_chargeIn hL.B hj ?_)
    refine wX8_taxAhead_63 ?_
    refine wX8_taxAhead_65 ?_
    refine wX8_taxAhead_67 ?_
    refine wX8_taxAhead_68 hL.c ?_
    refine wX8_taxAhead_71 ?_
    refine wX8_taxAhead_73 ?_
    refine wX8_taxAhead_75 ?_
    refine wX8_taxAhead_76 hL.E.1 (mX7_taxOf hL.E hbn hb4 ?_)
    refine wX8_taxAhead_79 ?_
    refine wX8_taxAhead_80 ?_
    refine wX8_taxAhead_82 ?_
    refine wX8_taxAhead_83 hL.c ?_
    refine wX8_taxAhead_86 ?_
    refine wX8_taxAhead_88 ?_
    refine wX8_taxAhead_90 hL.E.1 (mX7_isTaxed hL.E ?_)
    refine wX8_taxAhead_93 (fun c93 => ?_) (fun c93 => ?_)
    · refine wX8_taxAhead_103 ?_
      refine wX8_taxAhead_106 ?_
      refine q_drp 7 (q_drp 8 (q_ls ?_ ih))
      rw [nI_1]
      first
        | (have q9 := q_b1 c93; rw [l_ta, if_pos q9]; rfl)
        | (have q9 := q_b0 c93; rw [l_ta, if_neg (by rw [q9]; decide)]; rfl)
    · refine wX8_taxAhead_96 ?_
      refine wX8_taxAhead_97 ?_
      refine wX8_taxAhead_98 ?_
      refine wX8_taxAhead_100 ?_
      refine wX8_taxAhead_101 ?_
      refine wX8_taxAhead_102 ?_
      refine wX8_taxAhead_103 ?_
      refine wX8_taxAhead_106 ?_
      refine q_drp 7 (q_drp 8 (q_ls ?_ ih))
      rw [nI_1]
      first
        | (have q9 := q_b1 c93; rw [l_ta, if_pos q9]; rfl)
        | (have q9 := q_b0 c93; rw [l_ta, if_neg (by rw [q9]; decide)]; rfl)
end CX8d

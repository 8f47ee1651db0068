/-! SalaryCapLedger: measures, counts for ranks, a player's values, releases -/
section CX8c
variable {V : q_En} {h : q_H} {z : Option Nat} {Kx : q_KX}
def l_ms (S : q_Ls) (j : Nat) (x : Int32) : Int64 :=
  if x = 0 then (b_ch (ls_B S) j (b_w (ls_B S))).toInt64 else if x = 1 then (l_room S j).toInt64 else if x = 2 then (t_in (b_t (ls_B S) j) (b_w (ls_B S))).toInt64
  else if x = 3 then l_tax S j (b_ch (ls_B S) j (b_w (ls_B S))) else (q_bc (b_set (ls_B S) (nI j) 24)).toInt64
def l_tb (S : q_Ls) (j : Nat) (x : Int32) : Nat → Int32
  | 0 => 0
  | k + 1 => if l_ms S j x < l_ms S k x ∨ (l_ms S k x = l_ms S j x ∧ k < j) then l_tb S j x k + 1 else l_tb S j x k
def l_co (S : q_Ls) (i : Nat) : Int32 := pl_cost (b_p (ls_B S) i) (b_w (ls_B S))
def l_pb (S : q_Ls) (i : Nat) : Nat → Int32
  | 0 => 0
  | k + 1 => if pl_has (b_p (ls_B S) k) = true ∧ (l_co S i < l_co S k ∨ (l_co S k = l_co S i ∧ k < i)) then l_pb S i k + 1 else l_pb S i k
def l_cv (S : q_Ls) (i : Nat) (x : Int32) : Int32 :=
  if x = 3 then b_w (ls_B S) - p_s (b_p (ls_B S) i) else if x = 4 then d_n (p_d (b_p (ls_B S) i)) - (b_w (ls_B S) - p_s (b_p (ls_B S) i)) else if x = 5 then d_g (p_d (b_p (ls_B S) i)) else d_sf (p_d (b_p (ls_B S) i)) (b_w (ls_B S) - p_s (b_p (ls_B S) i))
def l_pv (S : q_Ls) (i : Nat) (x : Int32) : Int32 :=
  if x = 0 then p_t (b_p (ls_B S) i) else if x = 1 then p_l (b_p (ls_B S) i) else if x = 2 then p_n (b_p (ls_B S) i) else if pl_has (b_p (ls_B S) i) = true then l_cv S i x else -2
theorem nI_lti {a b : Nat} (hb : b < 2147483648) (hab : a < b) : nI a < nI b := by rw [← Int32.not_le]; exact nI_ge hab hb
theorem mX8_teamMeasure {L : Nat} {S : q_Ls} {X : q_Lx} {j : Nat} {x : Int32} {P : Int64 → q_H → Option Nat → Prop} (hL : isLx h L S X) (hS : okL S) (hj : j < 4) (hk : P (l_ms S j x) h z) : QMl V iX8_teamMeasure [.ref L, .int (nI j), .int x] h z P Kx := by
  refine eX8_teamMeasure ?_
  refine wX8_teamMeasure_0 ?_
  refine wX8_teamMeasure_1 (fun c1 => ?_) (fun c1 => ?_) (fun c1 => ?_) (fun c1 => ?_) (fun c1 => ?_)
  · refine wX8_teamMeasure_32 ?_
    refine wX8_teamMeasure_33 hL.c ?_
    refine wX8_teamMeasure_36 ?_
    refine wX8_teamMeasure_37 hL.B.1 (mX0_chargeNow hL.B hj ?_)
    refine wX8_teamMeasure_40 ?_
    refine wX8_teamMeasure_41  ?_
    subst c1; rw [l_ms, if_pos rfl] at hk; exact hk
  · refine wX8_teamMeasure_42 ?_
    refine wX8_teamMeasure_43 ?_
    refine wX8_teamMeasure_44 hL.c (mX8_roomOf hL hj ?_)
    refine wX8_teamMeasure_47 ?_
    refine wX8_teamMeasure_48  ?_
    subst c1; rw [l_ms, if_neg (by decide), if_pos rfl] at hk; exact hk
  · refine wX8_teamMeasure_49 ?_
    refine wX8_teamMeasure_50 hL.c ?_
    refine wX8_teamMeasure_53 hL.B.1 ?_
    refine wX8_teamMeasure_56 ?_
    refine wX8_teamMeasure_57 (t := 5) rfl hL.B.2.2.1 rfl hj (by decide) (if_pos hj) ?_
    refine wX8_teamMeasure_58 ?_
    refine wX8_teamMeasure_59 hL.c ?_
    refine wX8_teamMeasure_62 hL.B.1 ?_
    refine wX8_teamMeasure_65 (hL.B.T hj).1 (mX6_deadIn (hL.B.T hj) ?_)
    refine wX8_teamMeasure_68 ?_
    refine wX8_teamMeasure_69  ?_
    subst c1; rw [l_ms, if_neg (by decide), if_neg (by decide), if_pos rfl] at hk; exact hk
  · refine wX8_teamMeasure_70 ?_
    refine wX8_teamMeasure_71 ?_
    refine wX8_teamMeasure_72 ?_
    refine wX8_teamMeasure_73 hL.c ?_
    refine wX8_teamMeasure_76 ?_
    refine wX8_teamMeasure_77 hL.B.1 (mX0_chargeNow hL.B hj ?_)
    refine wX8_teamMeasure_80 hL.c (mX8_taxOn hL hS hj ?_)
    refine wX8_teamMeasure_83  ?_
    subst c1; rw [l_ms, if_neg (by decide), if_neg (by decide), if_neg (by decide), if_pos rfl] at hk; exact hk
  · refine wX8_teamMeasure_84 ?_
    refine wX8_teamMeasure_85 hL.c ?_
    refine wX8_teamMeasure_88 ?_
    refine wX8_teamMeasure_89 hL.B.1 (mX0_playersOf hL.B ?_)
    refine wX8_teamMeasure_92 (mJ6_bitCount_0f7a4 ?_)
    refine wX8_teamMeasure_95 ?_
    refine wX8_teamMeasure_96  ?_
    rw [l_ms, if_neg (by rintro rfl; exact absurd c1 (by decide)), if_neg (by rintro rfl; exact absurd c1 (by decide)), if_neg (by rintro rfl; exact absurd c1 (by decide)), if_neg (by rintro rfl; exact absurd c1 (by decide))] at hk; exact hk
theorem mX8_teamsBefore {L : Nat} {S : q_Ls} {X : q_Lx} {j : Nat} {x : Int32} {P : Int32 → q_H → Option Nat → Prop} (hL : isLx h L S X) (hS : okL S) (hj : j < 4) (hk : ∀ n, n ≤ 4 → te_t (ls_T S) = nI n → P (l_tb S j x n) h z) : QMi V iX8_teamsBefore [.ref L, .int (nI j), .int x] h z P Kx := by
  obtain ⟨n, hn4, hn⟩ := hS.2.2.1
  refine eX8_teamsBefore ?_
  refine wX8_teamsBefore_0 ?_
  refine wX8_teamsBefore_1 ?_
  refine wX8_teamsBefore_2 ?_
  refine wX8_teamsBefore_3 hL.c (mX8_teamMeasure hL hS hj ?_)
  refine wX8_teamsBefore_6 ?_
  refine wX8_teamsBefore_7 ?_
  refine wX8_teamsBefore_8 ?_
  refine wX8_teamsBefore_10 ?_
  refine wX8_teamsBefore_11 ?_
  refine q_for (P := fun k => QW V iX8_teamsBefore 13 [some (.ref L), some (.int (nI j)), some (.int x), some (.long (l_ms S j x)), none, some (.int (l_tb S j x k)), some (.int (nI k)), none, none] [] h z 0 0 (q_Ki P) Kx) n ?_ (fun k hkn ih => ?_)
  · refine wX8_teamsBefore_13 ?_
    refine wX8_teamsBefore_15 ?_
    refine wX8_teamsBefore_16 hL.c ?_
    refine wX8_teamsBefore_19 hL.E.1 ?_
    refine wX8_teamsBefore_22 (fun c22 => ?_) (fun c22 => absurd (by rw [hn]; exact nI_le (Nat.le_refl _) (by omega)) c22)
    refine wX8_teamsBefore_63 ?_
    refine wX8_teamsBefore_65  ?_
    exact hk n hn4 hn
  · refine wX8_teamsBefore_13 ?_
    refine wX8_teamsBefore_15 ?_
    refine wX8_teamsBefore_16 hL.c ?_
    refine wX8_teamsBefore_19 hL.E.1 ?_
    refine wX8_teamsBefore_22 (fun c22 => absurd c22 (by rw [hn]; exact nI_ge hkn (by omega))) (fun c22 => ?_)
    refine wX8_teamsBefore_25 ?_
    refine wX8_teamsBefore_26 ?_
    refine wX8_teamsBefore_28 ?_
    refine wX8_teamsBefore_29 hL.c (mX8_teamMeasure hL hS (j := k) (by omega) ?_)
    refine wX8_teamsBefore_32 ?_
    refine wX8_teamsBefore_34 ?_
    refine wX8_teamsBefore_36 ?_
    refine wX8_teamsBefore_37 (fun c37 => ?_) (fun c37 => ?_)
    · refine wX8_teamsBefore_54 ?_
      refine wX8_teamsBefore_57 ?_
      refine wX8_teamsBefore_60 ?_
      refine q_drp 7 (q_ls ?_ ih)
      rw [nI_1]
      first
        | (have q9 : l_ms S j x < l_ms S k x := c37; rw [l_tb, if_pos (Or.inl q9)]; rfl)
        | (have q9 := c51; rw [l_tb, if_neg (fun q => q.elim c37 (fun q => (nI_ge q.2 (by omega)) q9))]; rfl)
        | (have q9 := c44; rw [l_tb, if_neg (fun q => q.elim c37 (fun q => q9 q.1))]; rfl)
        | (have q9 := c51; rw [l_tb, if_pos (Or.inr ⟨c44, nI_lto (by omega) (Int32.not_le.mp q9)⟩)]; rfl)
    · refine wX8_teamsBefore_41 ?_
      refine wX8_teamsBefore_43 ?_
      refine wX8_teamsBefore_44 (fun c44 => ?_) (fun c44 => ?_)
      · refine wX8_teamsBefore_57 ?_
        refine wX8_teamsBefore_60 ?_
        refine q_drp 7 (q_ls ?_ ih)
        rw [nI_1]
        first
          | (have q9 : l_ms S j x < l_ms S k x := c37; rw [l_tb, if_pos (Or.inl q9)]; rfl)
          | (have q9 := c51; rw [l_tb, if_neg (fun q => q.elim c37 (fun q => (nI_ge q.2 (by omega)) q9))]; rfl)
          | (have q9 := c44; rw [l_tb, if_neg (fun q => q.elim c37 (fun q => q9 q.1))]; rfl)
          | (have q9 := c51; rw [l_tb, if_pos (Or.inr ⟨c44, nI_lto (by omega) (Int32.not_le.mp q9)⟩)]; rfl)
      · refine wX8_teamsBefore_48 ?_
        refine wX8_teamsBefore_50 ?_
        refine wX8_teamsBefore_51 (fun c51 => ?_) (fun c51 => ?_)
        · refine wX8_teamsBefore_57 ?_
          refine wX8_teamsBefore_60 ?_
          refine q_drp 7 (q_ls ?_ ih)
          rw [nI_1]
          first
            | (have q9 : l_ms S j x < l_ms S k x := c37; rw [l_tb, if_pos (Or.inl q9)]; rfl)
            | (have q9 := c51; rw [l_tb, if_neg (fun q => q.elim c37 (fun q => (nI_ge q.2 (by omega)) q9))]; rfl)
            | (have q9 := c44; rw [l_tb, if_neg (fun q => q.elim c37 (fun q => q9 q.1))]; rfl)
            | (have q9 := c51; rw [l_tb, if_pos (Or.inr ⟨c44, nI_lto (by omega) (Int32.not_le.mp q9)⟩)]; rfl)
        · refine wX8_teamsBefore_54 ?_
          refine wX8_teamsBefore_57 ?_
          refine wX8_teamsBefore_60 ?_
          refine q_drp 7 (q_ls ?_ ih)
          rw [nI_1]
          first
            | (have q9 : l_ms S j x < l_ms S k x := c37; rw [l_tb, if_pos (Or.inl q9)]; rfl)
            | (have q9 := c51; rw [l_tb, if_neg (fun q => q.elim c37 (fun q => (nI_ge q.2 (by omega)) q9))]; rfl)
            | (have q9 := c44; rw [l_tb, if_neg (fun q => q.elim c37 (fun q => q9 q.1))]; rfl)
            | (have q9 := c51; rw [l_tb, if_pos (Or.inr ⟨c44, nI_lto (by omega) (Int32.not_le.mp q9)⟩)]; rfl)
theorem mX8_contractValue {L : Nat} {S : q_Ls} {X : q_Lx} {i : Nat} {x : Int32} {P : Int32 → q_H → Option Nat → Prop} (hL : isLx h L S X) (hi : i < 24) (hk : P (l_cv S i x) h z) : QMi V iX8_contractValue [.ref L, .ref (lx_b X + 4 + 2 * i), .int x] h z P Kx := by
  refine eX8_contractValue ?_
  refine wX8_contractValue_0 ?_
  refine wX8_contractValue_1 hL.c ?_
  refine wX8_contractValue_4 hL.B.1 ?_
  refine wX8_contractValue_7 ?_
  refine wX8_contractValue_8 (hL.B.P hi).1 ?_
  refine wX8_contractValue_11 ?_
  refine wX8_contractValue_12 ?_
  refine wX8_contractValue_13 ?_
  refine wX8_contractValue_14 (fun c14 => ?_) (fun c14 => ?_) (fun c14 => ?_) (fun c14 => ?_)
  · refine wX8_contractValue_40 ?_
    refine wX8_contractValue_41  ?_
    subst c14; rw [l_cv, if_pos rfl] at hk; exact hk
  · refine wX8_contractValue_42 ?_
    refine wX8_contractValue_43 (hL.B.P hi).1 ?_
    refine wX8_contractValue_46 (hL.B.P hi).2 ?_
    refine wX8_contractValue_49 ?_
    refine wX8_contractValue_50 ?_
    refine wX8_contractValue_51  ?_
    subst c14; rw [l_cv, if_neg (by decide), if_pos rfl] at hk; exact hk
  · refine wX8_contractValue_52 ?_
    refine wX8_contractValue_53 (hL.B.P hi).1 ?_
    refine wX8_contractValue_56 (hL.B.P hi).2 ?_
    refine wX8_contractValue_59  ?_
    subst c14; rw [l_cv, if_neg (by decide), if_neg (by decide), if_pos rfl] at hk; exact hk
  · refine wX8_contractValue_60 ?_
    refine wX8_contractValue_61 (hL.B.P hi).1 ?_
    refine wX8_contractValue_64 ?_
    refine wX8_contractValue_65 (hL.B.P hi).2 (mX1_sharesFrom (hL.B.P hi).2 ?_)
    refine wX8_contractValue_68  ?_
    rw [l_cv, if_neg (by rintro rfl; exact absurd c14 (by decide)), if_neg (by rintro rfl; exact absurd c14 (by decide)), if_neg (by rintro rfl; exact absurd c14 (by decide))] at hk; exact hk
theorem mX8_playerValue {L : Nat} {S : q_Ls} {X : q_Lx} {p : Int32} {x : Int32} {P : Int32 → q_H → Option Nat → Prop} (hL : isLx h L S X) (hS : okL S) (hk : ls_l S = true → (gP S p && rg x 0 6) = true → ∀ i, i < 24 → p = nI i → P (l_pv S i x) h z) (h1 : ls_l S = false → Kx E_st h) (h2 : ls_l S = true → (gP S p && rg x 0 6) = false → Kx E_ar h) : QMi V iX8_playerValue [.ref L, .int p, .int x] h z P Kx := by
  refine eX8_playerValue ?_
  refine wX8_playerValue_0 ?_
  refine wX8_playerValue_1 hL.c (mX8_requireLeague hL (fun hl => ?_) h1)
  refine wX8_playerValue_4 ?_
  refine wX8_playerValue_5 ?_
  refine wX8_playerValue_6 hL.c (mX8_requirePlayer hL (fun g1 => ?_) (fun g1 => h2 hl (by simp [g1])))
  obtain ⟨i, hi, rfl⟩ := gP_of hS g1
  refine wX8_playerValue_9 ?_
  refine wX8_playerValue_10 ?_
  refine wX8_playerValue_11 ?_
  refine wX8_playerValue_13 (mX8_requireRange (fun g2 => ?_) (fun g2 => h2 hl (by simp [g2])))
  refine wX8_playerValue_16 ?_
  refine wX8_playerValue_17 hL.c ?_
  refine wX8_playerValue_20 hL.B.1 ?_
  refine wX8_playerValue_23 ?_
  refine wX8_playerValue_24 (t := 4) rfl hL.B.2.1 rfl hi (by decide) (if_pos hi) ?_
  refine wX8_playerValue_25 ?_
  refine wX8_playerValue_26 ?_
  refine wX8_playerValue_27 (fun c27 => ?_) (fun c27 => ?_) (fun c27 => ?_) (fun c27 => ?_)
  · refine wX8_playerValue_52 ?_
    refine wX8_playerValue_53 (hL.B.P hi).1 ?_
    refine wX8_playerValue_56  ?_
    have hk := (hk hl (by simp [g1, g2]) i hi rfl)
    subst c27; rw [l_pv, if_pos rfl] at hk; exact hk
  · refine wX8_playerValue_57 ?_
    refine wX8_playerValue_58 (hL.B.P hi).1 ?_
    refine wX8_playerValue_61  ?_
    have hk := (hk hl (by simp [g1, g2]) i hi rfl)
    subst c27; rw [l_pv, if_neg (by decide), if_pos rfl] at hk; exact hk
  · refine wX8_playerValue_62 ?_
    refine wX8_playerValue_63 (hL.B.P hi).1 ?_
    refine wX8_playerValue_66  ?_
    have hk := (hk hl (by simp [g1, g2]) i hi rfl)
    subst c27; rw [l_pv, if_neg (by decide), if_neg (by decide), if_pos rfl] at hk; exact hk
  · refine wX8_playerValue_67 ?_
    refine wX8_playerValue_68 (hL.B.P hi).1 (mX3_hasContract (hL.B.P hi) ?_)
    refine wX8_playerValue_71 (fun c71 => ?_) (fun c71 => ?_)
    · refine wX8_playerValue_83 ?_
      refine wX8_playerValue_85  ?_
      have hk := (hk hl (by simp [g1, g2]) i hi rfl)
      rw [l_pv, if_neg (by rintro rfl; exact absurd c27 (by decide)), if_neg (by rintro rfl; exact absurd c27 (by decide)), if_neg (by rintro rfl; exact absurd c27 (by decide))] at hk
      first
        | (rw [if_pos (q_b1 c71)] at hk; exact hk)
        | (rw [if_neg (by rw [q_b0 c71]; decide)] at hk; exact hk)
    · refine wX8_playerValue_74 ?_
      refine wX8_playerValue_75 ?_
      refine wX8_playerValue_76 ?_
      refine wX8_playerValue_77 hL.c (mX8_contractValue hL hi ?_)
      refine wX8_playerValue_80 ?_
      refine wX8_playerValue_85  ?_
      have hk := (hk hl (by simp [g1, g2]) i hi rfl)
      rw [l_pv, if_neg (by rintro rfl; exact absurd c27 (by decide)), if_neg (by rintro rfl; exact absurd c27 (by decide)), if_neg (by rintro rfl; exact absurd c27 (by decide))] at hk
      first
        | (rw [if_pos (q_b1 c71)] at hk; exact hk)
        | (rw [if_neg (by rw [q_b0 c71]; decide)] at hk; exact hk)
theorem mX8_playersBefore {L : Nat} {S : q_Ls} {X : q_Lx} {i : Nat} {P : Int32 → q_H → Option Nat → Prop} (hL : isLx h L S X) (hS : okL S) (hi : i < 24) (hk : ∀ n, n ≤ 24 → te_p (ls_T S) = nI n → P (l_pb S i n) h z) : QMi V iX8_playersBefore [.ref L, .int (nI i)] h z P Kx := by
  obtain ⟨n, hn24, hn⟩ := hS.2.2.2.1
  refine eX8_playersBefore ?_
  refine wX8_playersBefore_0 ?_
  refine wX8_playersBefore_1 hL.c ?_
  refine wX8_playersBefore_4 hL.B.1 ?_
  refine wX8_playersBefore_7 ?_
  refine wX8_playersBefore_8 (t := 4) rfl hL.B.2.1 rfl hi (by decide) (if_pos hi) ?_
  refine wX8_playersBefore_9 ?_
  refine wX8_playersBefore_10 hL.c ?_
  refine wX8_playersBefore_13 hL.B.1 ?_
  refine wX8_playersBefore_16 (hL.B.P hi).1 (mX3_costIn (hL.B.P hi) ?_)
  refine wX8_playersBefore_19 ?_
  refine wX8_playersBefore_20 ?_
  refine wX8_playersBefore_21 ?_
  refine wX8_playersBefore_22 ?_
  refine wX8_playersBefore_23 ?_
  refine q_for (P := fun k => QW V iX8_playersBefore 25 [some (.ref L), some (.int (nI i)), some (.int (l_co S i)), some (.int (l_pb S i k)), some (.int (nI k)), none, none] [] h z 0 0 (q_Ki P) Kx) n ?_ (fun k hkn ih => ?_)
  · refine wX8_playersBefore_25 ?_
    refine wX8_playersBefore_27 ?_
    refine wX8_playersBefore_28 hL.c ?_
    refine wX8_playersBefore_31 hL.E.1 ?_
    refine wX8_playersBefore_34 (fun c34 => ?_) (fun c34 => absurd (by rw [hn]; exact nI_le (Nat.le_refl _) (by omega)) c34)
    refine wX8_playersBefore_98 ?_
    refine wX8_playersBefore_99  ?_
    exact hk n hn24 hn
  · have hk24 : k < 24 := by omega
    refine wX8_playersBefore_25 ?_
    refine wX8_playersBefore_27 ?_
    refine wX8_playersBefore_28 hL.c ?_
    refine wX8_playersBefore_31 hL.E.1 ?_
    refine wX8_playersBefore_34 (fun c34 => absurd c34 (by rw [hn]; exact nI_ge hkn (by omega))) (fun c34 => ?_)
    refine wX8_playersBefore_37 ?_
    refine wX8_playersBefore_38 hL.c ?_
    refine wX8_playersBefore_41 hL.B.1 ?_
    refine wX8_playersBefore_44 ?_
    refine wX8_playersBefore_46 (t := 4) rfl hL.B.2.1 rfl hk24 (by decide) (if_pos hk24) ?_
    refine wX8_playersBefore_47 ?_
    refine wX8_playersBefore_49 ?_
    refine wX8_playersBefore_51 ?_
    refine wX8_playersBefore_52 hL.c ?_
    refine wX8_playersBefore_55 hL.B.1 ?_
    refine wX8_playersBefore_58 (hL.B.P hk24).1 (mX3_costIn (hL.B.P hk24) ?_)
    refine wX8_playersBefore_61 ?_
    refine wX8_playersBefore_63 ?_
    refine wX8_playersBefore_65 (hL.B.P hk24).1 (mX3_hasContract (hL.B.P hk24) ?_)
    refine wX8_playersBefore_68 (fun c68 => ?_) (fun c68 => ?_)
    · refine wX8_playersBefore_92 ?_
      refine wX8_playersBefore_95 ?_
      refine q_drp 5 (q_drp 6 (q_ls ?_ ih))
      rw [nI_1]
      first
        | (have q9 := q_b0 c68; rw [l_pb, if_neg (fun q => by rw [q9] at q; cases q.1)]; rfl)
        | (have q9 : l_co S i < l_co S k := c74; rw [l_pb, if_pos ⟨q_b1 c68, Or.inl q9⟩]; rfl)
        | (have q9 := c86; rw [l_pb, if_neg (fun q => q.2.elim c74 (fun q => (nI_ge q.2 (by omega)) q9))]; rfl)
        | (have q9 := c80; rw [l_pb, if_neg (fun q => q.2.elim c74 (fun q => q9 q.1))]; rfl)
        | (have q9 := c86; rw [l_pb, if_pos ⟨q_b1 c68, Or.inr ⟨c80, nI_lto (by omega) (Int32.not_le.mp q9)⟩⟩]; rfl)
    · refine wX8_playersBefore_71 ?_
      refine wX8_playersBefore_73 ?_
      refine wX8_playersBefore_74 (fun c74 => ?_) (fun c74 => ?_)
      · refine wX8_playersBefore_89 ?_
        refine wX8_playersBefore_92 ?_
        refine wX8_playersBefore_95 ?_
        refine q_drp 5 (q_drp 6 (q_ls ?_ ih))
        rw [nI_1]
        first
          | (have q9 := q_b0 c68; rw [l_pb, if_neg (fun q => by rw [q9] at q; cases q.1)]; rfl)
          | (have q9 : l_co S i < l_co S k := c74; rw [l_pb, if_pos ⟨q_b1 c68, Or.inl q9⟩]; rfl)
          | (have q9 := c86; rw [l_pb, if_neg (fun q => q.2.elim c74 (fun q => (nI_ge q.2 (by omega)) q9))]; rfl)
          | (have q9 := c80; rw [l_pb, if_neg (fun q => q.2.elim c74 (fun q => q9 q.1))]; rfl)
          | (have q9 := c86; rw [l_pb, if_pos ⟨q_b1 c68, Or.inr ⟨c80, nI_lto (by omega) (Int32.not_le.mp q9)⟩⟩]; rfl)
      · refine wX8_playersBefore_77 ?_
        refine wX8_playersBefore_79 ?_
        refine wX8_playersBefore_80 (fun c80 => ?_) (fun c80 => ?_)
        · refine wX8_playersBefore_92 ?_
          refine wX8_playersBefore_95 ?_
          refine q_drp 5 (q_drp 6 (q_ls ?_ ih))
          rw [nI_1]
          first
            | (have q9 := q_b0 c68; rw [l_pb, if_neg (fun q => by rw [q9] at q; cases q.1)]; rfl)
            | (have q9 : l_co S i < l_co S k := c74; rw [l_pb, if_pos ⟨q_b1 c68, Or.inl q9⟩]; rfl)
            | (have q9 := c86; rw [l_pb, if_neg (fun q => q.2.elim c74 (fun q => (nI_ge q.2 (by omega)) q9))]; rfl)
            | (have q9 := c80; rw [l_pb, if_neg (fun q => q.2.elim c74 (fun q => q9 q.1))]; rfl)
            | (have q9 := c86; rw [l_pb, if_pos ⟨q_b1 c68, Or.inr ⟨c80, nI_lto (by omega) (Int32.not_le.mp q9)⟩⟩]; rfl)
        · refine wX8_playersBefore_83 ?_
          refine wX8_playersBefore_85 ?_
          refine wX8_playersBefore_86 (fun c86 => ?_) (fun c86 => ?_)
          · refine wX8_playersBefore_92 ?_
            refine wX8_playersBefore_95 ?_
            refine q_drp 5 (q_drp 6 (q_ls ?_ ih))
            rw [nI_1]
            first
              | (have q9 := q_b0 c68; rw [l_pb, if_neg (fun q => by rw [q9] at q; cases q.1)]; rfl)
              | (have q9 : l_co S i < l_co S k := c74; rw [l_pb, if_pos ⟨q_b1 c68, Or.inl q9⟩]; rfl)
              | (have q9 := c86; rw [l_pb, if_neg (fun q => q.2.elim c74 (fun q => (nI_ge q.2 (by omega)) q9))]; rfl)
              | (have q9 := c80; rw [l_pb, if_neg (fun q => q.2.elim c74 (fun q => q9 q.1))]; rfl)
              | (have q9 := c86; rw [l_pb, if_pos ⟨q_b1 c68, Or.inr ⟨c80, nI_lto (by omega) (Int32.not_le.mp q9)⟩⟩]; rfl)
          · refine wX8_playersBefore_89 ?_
            refine wX8_playersBefore_92 ?_
            refine wX8_playersBefore_95 ?_
            refine q_drp 5 (q_drp 6 (q_ls ?_ ih))
            rw [nI_1]
            first
              | (have q9 := q_b0 c68; rw [l_pb, if_neg (fun q => by rw [q9] at q; cases q.1)]; rfl)
              | (have q9 : l_co S i < l_co S k := c74; rw [l_pb, if_pos ⟨q_b1 c68, Or.inl q9⟩]; rfl)
              | (have q9 := c86; rw [l_pb, if_neg (fun q => q.2.elim c74 (fun q => (nI_ge q.2 (by omega)) q9))]; rfl)
              | (have q9 := c80; rw [l_pb, if_neg (fun q => q.2.elim c74 (fun q => q9 q.1))]; rfl)
              | (have q9 := c86; rw [l_pb, if_pos ⟨q_b1 c68, Or.inr ⟨c80, nI_lto (by omega) (Int32.not_le.mp q9)⟩⟩]; rfl)
end CX8c

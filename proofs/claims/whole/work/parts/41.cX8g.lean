/-! SalaryCapLedger: a signing, the next year -/
section CX8g
variable {V : q_En} {h : q_H} {z : Option Nat} {Kx : q_KX}
theorem isLx.cast {L : Nat} {S S' : q_Ls} {X : q_Lx} (hL : isLx h L S X) (e : S = S') : isLx h L S' X := e ▸ hL
theorem isB.tm {a j : Nat} {b : q_Bk} (hB : isB h a b) (hj : j < 4) (p : Int64) (x m : Int32) : isB (q_up h (a + 52 + 2 * j) (.inr (7, [.ref (a + 52 + 2 * j + 1), .long p, .int x, .int m]))) a (b_sT b j (t_d (b_t b j), p, x, m)) ∧ q_out a 60 h (q_up h (a + 52 + 2 * j) (.inr (7, [.ref (a + 52 + 2 * j + 1), .long p, .int x, .int m]))) := by
  obtain ⟨f, hf, ef⟩ := (hB.T hj).2
  exact ⟨hB.sT hj ⟨q_up_s, f, by rw [q_up_n (by omega)]; exact hf, ef⟩ (q_out.up (by omega) (by omega)), q_out.up (by omega) (by omega)⟩
def l_of (B : q_Bk) : Int32 := d_sal (b_o B) 0 + d_shr (b_o B) 0
def l_sb (B : q_Bk) (j : Nat) (r : Int32) : q_Bk := if r = 1 then b_sT B j (t_d (b_t B j), t_p (b_t B j), t_x (b_t B j), t_m (b_t B j) - l_of B) else B
def l_sg (B : q_Bk) (j i : Nat) (r : Int32) : q_Bk := b_sP (l_sb B j r) i (pl_begin (b_p (l_sb B j r) i) (nI j) (b_w (l_sb B j r)) (b_o (l_sb B j r)))
def l_p1 (S : q_Ls) (j : Nat) : q_Bk := b_sT (ls_B S) j (t_d (b_t (ls_B S) j), t_p (b_t (ls_B S) j) + l_tax S j (l_cn S j), t_x (b_t (ls_B S) j), t_m (b_t (ls_B S) j))
def l_p2 (B : q_Bk) (j : Nat) : q_Bk := b_sT B j (t_d (b_t B j), t_p (b_t B j), t_x (b_t B j) ||| ((1 : Int32) <<< (b_w B &&& 31)), t_m (b_t B j))
def l_py (S : q_Ls) (j : Nat) : q_Bk := if te_tx (ls_T S) (l_cn S j) (b_w (l_p1 S j)) = true then l_p2 (l_p1 S j) j else l_p1 S j
def l_ny (S : q_Ls) : Nat → q_Bk × Int64
  | 0 => (ls_B S, 0)
  | k + 1 => (l_py (ls_sB S (l_ny S k).1) k, (l_ny S k).2 + l_tax (ls_sB S (l_ny S k).1) k (l_cn (ls_sB S (l_ny S k).1) k))
theorem mX8_sign {L : Nat} {S : q_Ls} {X : q_Lx} {t p r : Int32} {P : Int32 → q_H → Option Nat → Prop} (hL : isLx h L S X) (hS : okL S) (hk0 : ls_l S = true → (gT S t && gP S p && rg r 0 3) = true → ∀ j i, j < 4 → i < 24 → t = nI j → p = nI i → ¬ l_se S j i r = 0 → P (l_se S j i r) h z) (hk : ls_l S = true → (gT S t && gP S p && rg r 0 3) = true → ∀ j i, j < 4 → i < 24 → t = nI j → p = nI i → l_se S j i r = 0 → ∀ h', isL h' L (ls_sB (ls_sH S (hs_rem (ls_H S) (ls_B S))) (l_sg (ls_B S) j i r)) → q_out L 741 h h' → P (b_ch (l_sg (ls_B S) j i r) j (b_w (l_sg (ls_B S) j i r))) h' z) (h1 : ls_l S = false → Kx E_st h) (h2 : ls_l S = true → (gT S t && gP S p && rg r 0 3) = false → Kx E_ar h) : QMi V iX8_sign [.ref L, .int t, .int p, .int r] h z P Kx := by
  have ho : q_out L 741 h h := q_out.refl
  refine eX8_sign ?_
  refine wX8_sign_0 ?_
  refine wX8_sign_1 hL.c (mX8_requireLeague hL (fun hl => ?_) h1)
  refine wX8_sign_4 ?_
  refine wX8_sign_5 ?_
  refine wX8_sign_6 hL.c (mX8_requireTeam hL (fun g1 => ?_) (fun g1 => h2 hl (by simp [g1])))
  obtain ⟨j, hj, rfl⟩ := gT_of hS g1
  refine wX8_sign_9 ?_
  refine wX8_sign_10 ?_
  refine wX8_sign_11 hL.c (mX8_requirePlayer hL (fun g2 => ?_) (fun g2 => h2 hl (by simp [g2])))
  obtain ⟨i, hi, rfl⟩ := gP_of hS g2
  refine wX8_sign_14 ?_
  refine wX8_sign_15 ?_
  refine wX8_sign_16 ?_
  refine wX8_sign_17 (mX8_requireRange (fun g3 => ?_) (fun g3 => h2 hl (by simp [g3])))
  refine wX8_sign_20 ?_
  refine wX8_sign_21 ?_
  refine wX8_sign_22 ?_
  refine wX8_sign_23 ?_
  refine wX8_sign_24 hL.c (mX8_signError hL hj hi ?_)
  refine wX8_sign_27 ?_
  refine wX8_sign_29 ?_
  refine wX8_sign_31 (fun c31 => ?_) (fun c31 => ?_)
  · refine wX8_sign_37 ?_
    refine wX8_sign_38 hL.c ?_
    refine wX8_sign_41 ?_
    refine wX8_sign_42 hL.c ?_
    refine wX8_sign_45 hL.H.1 (mX8_rem hL hS fun h3 hL2 ho2 => ?_)
    replace ho := ho.trans ho2
    replace hL := hL2
    clear hL2 ho2
    refine wX8_sign_48 ?_
    refine wX8_sign_49 ?_
    refine wX8_sign_50 (fun c50 => ?_) (fun c50 => ?_)
    · first
        | (have q9 : r = 1 := c50
           obtain ⟨hB9, ho9⟩ := hL.B.tm hj (t_p (b_t (ls_B S) j)) (t_x (b_t (ls_B S) j)) (t_m (b_t (ls_B S) j) - l_of (ls_B S))
           obtain ⟨hL2, ho2⟩ := hL.sB hB9 ho9
           replace ho := ho.trans ho2
           replace hL := hL2.cast (S' := ls_sB (ls_sH S (hs_rem (ls_H S) (ls_B S))) (l_sb (ls_B S) j r)) (by rw [l_sb, if_pos q9] <;> rfl)
           clear hL2 ho2 hB9 ho9)
        | (have q9 := c50
           replace hL := hL.cast (S' := ls_sB (ls_sH S (hs_rem (ls_H S) (ls_B S))) (l_sb (ls_B S) j r)) (by rw [l_sb, if_neg q9] <;> rfl))
      refine wX8_sign_93 ?_
      refine wX8_sign_94 hL.c ?_
      refine wX8_sign_97 hL.B.1 ?_
      refine wX8_sign_100 ?_
      refine wX8_sign_101 (t := 4) rfl hL.B.2.1 rfl hi (by decide) (if_pos hi) ?_
      refine wX8_sign_102 ?_
      refine wX8_sign_103 ?_
      refine wX8_sign_104 hL.c ?_
      refine wX8_sign_107 hL.B.1 ?_
      refine wX8_sign_110 ?_
      refine wX8_sign_111 hL.c ?_
      refine wX8_sign_114 hL.B.1 ?_
      refine wX8_sign_117 (hL.B.P hi).1 (mX3_begin (by omega) (hL.B.P hi) hL.B.2.2.2.1 fun h3 hP3 ho3 => ?_)
      obtain ⟨hL2, ho2⟩ := hL.sB (hL.B.sP hi hP3 ho3) (ho3.in (by omega) (by omega))
      replace ho := ho.trans ho2
      replace hL := hL2
      clear hL2 ho2
      refine wX8_sign_120 ?_
      refine wX8_sign_121 hL.c ?_
      refine wX8_sign_124 ?_
      refine wX8_sign_125 hL.B.1 (mX0_chargeNow hL.B hj ?_)
      refine wX8_sign_128  ?_
      exact hk hl (by simp [g1, g2, g3]) j i hj hi rfl rfl c31 _ ⟨_, hL⟩ ho
    · refine wX8_sign_53 ?_
      refine wX8_sign_54 hL.c ?_
      refine wX8_sign_57 hL.B.1 ?_
      refine wX8_sign_60 ?_
      refine wX8_sign_61 (t := 5) rfl hL.B.2.2.1 rfl hj (by decide) (if_pos hj) ?_
      refine wX8_sign_62 ?_
      refine wX8_sign_63 (hL.B.T hj).1 ?_
      refine wX8_sign_66 ?_
      refine wX8_sign_67 hL.c ?_
      refine wX8_sign_70 hL.B.1 ?_
      refine wX8_sign_73 ?_
      refine wX8_sign_74 hL.B.2.2.2.1 (mX1_salaryOf hL.B.2.2.2.1 ?_)
      refine wX8_sign_77 ?_
      refine wX8_sign_78 hL.c ?_
      refine wX8_sign_81 hL.B.1 ?_
      refine wX8_sign_84 ?_
      refine wX8_sign_85 hL.B.2.2.2.1 (mX1_shareOf hL.B.2.2.2.1 ?_)
      refine wX8_sign_88 ?_
      refine wX8_sign_89 ?_
      refine wX8_sign_90 (hL.B.T hj).1 ?_
      first
        | (have q9 : r = 1 := c50
           obtain ⟨hB9, ho9⟩ := hL.B.tm hj (t_p (b_t (ls_B S) j)) (t_x (b_t (ls_B S) j)) (t_m (b_t (ls_B S) j) - l_of (ls_B S))
           obtain ⟨hL2, ho2⟩ := hL.sB hB9 ho9
           replace ho := ho.trans ho2
           replace hL := hL2.cast (S' := ls_sB (ls_sH S (hs_rem (ls_H S) (ls_B S))) (l_sb (ls_B S) j r)) (by rw [l_sb, if_pos q9] <;> rfl)
           clear hL2 ho2 hB9 ho9)
        | (have q9 := c50
           replace hL := hL.cast (S' := ls_sB (ls_sH S (hs_rem (ls_H S) (ls_B S))) (l_sb (ls_B S) j r)) (by rw [l_sb, if_neg q9] <;> rfl))
      refine wX8_sign_93 ?_
      refine wX8_sign_94 hL.c ?_
      refine wX8_sign_97 hL.B.1 ?_
      refine wX8_sign_100 ?_
      refine wX8_sign_101 (t := 4) rfl hL.B.2.1 rfl hi (by decide) (if_pos hi) ?_
      refine wX8_sign_102 ?_
      refine wX8_sign_103 ?_
      refine wX8_sign_104 hL.c ?_
      refine wX8_sign_107 hL.B.1 ?_
      refine wX8_sign_110 ?_
      refine wX8_sign_111 hL.c ?_
      refine wX8_sign_114 hL.B.1 ?_
      refine wX8_sign_117 (hL.B.P hi).1 (mX3_begin (by omega) (hL.B.P hi) hL.B.2.2.2.1 fun h3 hP3 ho3 => ?_)
      obtain ⟨hL2, ho2⟩ := hL.sB (hL.B.sP hi hP3 ho3) (ho3.in (by omega) (by omega))
      replace ho := ho.trans ho2
      replace hL := hL2
      clear hL2 ho2
      refine wX8_sign_120 ?_
      refine wX8_sign_121 hL.c ?_
      refine wX8_sign_124 ?_
      refine wX8_sign_125 hL.B.1 (mX0_chargeNow hL.B hj ?_)
      refine wX8_sign_128  ?_
      exact hk hl (by simp [g1, g2, g3]) j i hj hi rfl rfl c31 _ ⟨_, hL⟩ ho
  · refine wX8_sign_34 ?_
    refine wX8_sign_36  ?_
    exact hk0 hl (by simp [g1, g2, g3]) j i hj hi rfl rfl c31
theorem mX8_payTax {L : Nat} {S : q_Ls} {X : q_Lx} {j : Nat} {P : Int64 → q_H → Option Nat → Prop} (hL : isLx h L S X) (hS : okL S) (hj : j < 4) (hk : ∀ h', isLx h' L (ls_sB S (l_py S j)) X → q_out L 741 h h' → P (l_tax S j (l_cn S j)) h' z) : QMl V iX8_payTax [.ref L, .int (nI j)] h z P Kx := by
  have ho : q_out L 741 h h := q_out.refl
  refine eX8_payTax ?_
  refine wX8_payTax_0 ?_
  refine wX8_payTax_1 hL.c ?_
  refine wX8_payTax_4 ?_
  refine wX8_payTax_5 hL.B.1 (mX0_chargeNow hL.B hj ?_)
  refine wX8_payTax_8 ?_
  refine wX8_payTax_9 ?_
  refine wX8_payTax_10 ?_
  refine wX8_payTax_11 ?_
  refine wX8_payTax_12 hL.c (mX8_taxOn hL hS hj ?_)
  refine wX8_payTax_15 ?_
  refine wX8_payTax_16 ?_
  refine wX8_payTax_17 hL.c ?_
  refine wX8_payTax_20 hL.B.1 ?_
  refine wX8_payTax_23 ?_
  refine wX8_payTax_24 (t := 5) rfl hL.B.2.2.1 rfl hj (by decide) (if_pos hj) ?_
  refine wX8_payTax_25 ?_
  refine wX8_payTax_26 (hL.B.T hj).1 ?_
  refine wX8_payTax_29 ?_
  refine wX8_payTax_30 ?_
  refine wX8_payTax_31 (hL.B.T hj).1 ?_
  obtain ⟨hB9, ho9⟩ := hL.B.tm hj (t_p (b_t (ls_B S) j) + l_tax S j (l_cn S j)) (t_x (b_t (ls_B S) j)) (t_m (b_t (ls_B S) j))
  obtain ⟨hL2, ho2⟩ := hL.sB hB9 ho9
  replace ho := ho.trans ho2
  replace hL := hL2.cast (S' := ls_sB S (l_p1 S j)) rfl
  clear hL2 ho2 hB9 ho9
  refine wX8_payTax_34 ?_
  refine wX8_payTax_35 hL.c ?_
  refine wX8_payTax_38 ?_
  refine wX8_payTax_39 ?_
  refine wX8_payTax_40 hL.c ?_
  refine wX8_payTax_43 hL.B.1 ?_
  refine wX8_payTax_46 hL.E.1 (mX7_isTaxed hL.E ?_)
  refine wX8_payTax_49 (fun c49 => ?_) (fun c49 => ?_)
  · first
      | (have q9 : te_tx (ls_T S) (l_cn S j) (b_w (l_p1 S j)) = true := q_b1 c49
         obtain ⟨hB9, ho9⟩ := hL.B.tm hj (t_p (b_t (l_p1 S j) j)) (t_x (b_t (l_p1 S j) j) ||| ((1 : Int32) <<< (b_w (l_p1 S j) &&& 31))) (t_m (b_t (l_p1 S j) j))
         obtain ⟨hL2, ho2⟩ := hL.sB hB9 ho9
         replace ho := ho.trans ho2
         replace hL := hL2.cast (S' := ls_sB S (l_py S j)) (by rw [l_py, if_pos q9] <;> rfl)
         clear hL2 ho2 hB9 ho9)
      | (have q9 : te_tx (ls_T S) (l_cn S j) (b_w (l_p1 S j)) = false := q_b0 c49
         replace hL := hL.cast (S' := ls_sB S (l_py S j)) (by rw [l_py, if_neg (by rw [q9]; decide)] <;> rfl))
    refine wX8_payTax_78 ?_
    refine wX8_payTax_79  ?_
    exact hk _ hL ho
  · refine wX8_payTax_52 ?_
    refine wX8_payTax_53 hL.c ?_
    refine wX8_payTax_56 hL.B.1 ?_
    refine wX8_payTax_59 ?_
    refine wX8_payTax_60 (t := 5) rfl hL.B.2.2.1 rfl hj (by decide) (if_pos hj) ?_
    refine wX8_payTax_61 ?_
    refine wX8_payTax_62 (hL.B.T hj).1 ?_
    refine wX8_payTax_65 ?_
    refine wX8_payTax_66 ?_
    refine wX8_payTax_67 hL.c ?_
    refine wX8_payTax_70 hL.B.1 ?_
    refine wX8_payTax_73 ?_
    refine wX8_payTax_74 ?_
    refine wX8_payTax_75 (hL.B.T hj).1 ?_
    first
      | (have q9 : te_tx (ls_T S) (l_cn S j) (b_w (l_p1 S j)) = true := q_b1 c49
         obtain ⟨hB9, ho9⟩ := hL.B.tm hj (t_p (b_t (l_p1 S j) j)) (t_x (b_t (l_p1 S j) j) ||| ((1 : Int32) <<< (b_w (l_p1 S j) &&& 31))) (t_m (b_t (l_p1 S j) j))
         obtain ⟨hL2, ho2⟩ := hL.sB hB9 ho9
         replace ho := ho.trans ho2
         replace hL := hL2.cast (S' := ls_sB S (l_py S j)) (by rw [l_py, if_pos q9] <;> rfl)
         clear hL2 ho2 hB9 ho9)
      | (have q9 : te_tx (ls_T S) (l_cn S j) (b_w (l_p1 S j)) = false := q_b0 c49
         replace hL := hL.cast (S' := ls_sB S (l_py S j)) (by rw [l_py, if_neg (by rw [q9]; decide)] <;> rfl))
    refine wX8_payTax_78 ?_
    refine wX8_payTax_79  ?_
    exact hk _ hL ho
def l_nyS (S : q_Ls) : q_Ls := ls_sH S (hs_rem (ls_H S) (ls_B S))
theorem mX8_nextYear {L : Nat} {S : q_Ls} {X : q_Lx} {P : Int64 → q_H → Option Nat → Prop} (hL : isLx h L S X) (hS : okL S) (hk0 : ls_l S = true → 15 ≤ b_w (ls_B S) → P (-2) h z) (hk : ls_l S = true → b_w (ls_B S) < 15 → ∀ n, n ≤ 4 → te_t (ls_T S) = nI n → ∀ h', isL h' L (ls_sB (ls_sH S (hs_rem (ls_H S) (ls_B S))) (b_ey (l_ny (ls_sH S (hs_rem (ls_H S) (ls_B S))) n).1 (te_m (ls_T S)))) → q_out L 741 h h' → P (l_ny (ls_sH S (hs_rem (ls_H S) (ls_B S))) n).2 h' z) (h1 : ls_l S = false → Kx E_st h) : QMl V iX8_nextYear [.ref L] h z P Kx := by
  have ho : q_out L 741 h h := q_out.refl
  refine eX8_nextYear ?_
  refine wX8_nextYear_0 ?_
  refine wX8_nextYear_1 hL.c (mX8_requireLeague hL (fun hl => ?_) h1)
  refine wX8_nextYear_4 ?_
  refine wX8_nextYear_5 hL.c ?_
  refine wX8_nextYear_8 hL.B.1 ?_
  refine wX8_nextYear_11 ?_
  refine wX8_nextYear_13 (fun c13 => ?_) (fun c13 => ?_)
  · refine wX8_nextYear_20 ?_
    refine wX8_nextYear_21 hL.c ?_
    refine wX8_nextYear_24 ?_
    refine wX8_nextYear_25 hL.c ?_
    refine wX8_nextYear_28 hL.H.1 (mX8_rem hL hS fun h3 hL2 ho2 => ?_)
    replace ho := ho.trans ho2
    replace hL := hL2
    clear hL2 ho2
    refine wX8_nextYear_31 ?_
    refine wX8_nextYear_32 ?_
    refine wX8_nextYear_33 ?_
    refine wX8_nextYear_34 ?_
    have hS1 : okL (ls_sH S (hs_rem (ls_H S) (ls_B S))) := hS.rem
    obtain ⟨n, hn4, hn⟩ := hS.2.2.1
    generalize hS2 : ls_sH S (hs_rem (ls_H S) (ls_B S)) = S1 at *
    have hn1 : te_t (ls_T S1) = nI n := by rw [← hS2]; exact hn
    have hw0 : ls_B S1 = ls_B S := by rw [← hS2]; rfl
    refine q_for (P := fun k => ∀ hh, (isLx hh L (ls_sB S1 (l_ny S1 k).1) X ∧ q_out L 741 h hh) → QW V iX8_nextYear 35 [some (.ref L), some (.long (l_ny S1 k).2), none, some (.int (nI k))] [] hh z 0 0 (q_Kl P) Kx) n ?_ ?_ _ ⟨hL, ho⟩
    · rintro hh ⟨hL, ho⟩
      refine wX8_nextYear_35 ?_
      refine wX8_nextYear_36 ?_
      refine wX8_nextYear_37 hL.c ?_
      refine wX8_nextYear_40 hL.E.1 ?_
      refine wX8_nextYear_43 (fun c43 => ?_) (fun c43 => absurd (show te_t (ls_T S1) ≤ nI n by rw [hn1]; exact nI_le (Nat.le_refl _) (by omega)) c43)
      refine wX8_nextYear_60 ?_
      refine wX8_nextYear_61 hL.c ?_
      refine wX8_nextYear_64 ?_
      refine wX8_nextYear_65 hL.c ?_
      refine wX8_nextYear_68 hL.E.1 ?_
      refine wX8_nextYear_71 hL.B.1 (mX0_endYear hL.B fun h3 hB3 ho3 => ?_)
      obtain ⟨hL2, ho2⟩ := hL.sB hB3 ho3
      replace ho := ho.trans ho2
      replace hL := hL2
      clear hL2 ho2
      refine wX8_nextYear_74 ?_
      refine wX8_nextYear_75  ?_
      subst hS2
      exact hk hl c13 n hn4 hn _ ⟨_, hL⟩ ho
    · rintro k hkn ih hh ⟨hL, ho⟩
      have hS3 : okL (ls_sB S1 (l_ny S1 k).1) := hS1
      refine wX8_nextYear_35 ?_
      refine wX8_nextYear_36 ?_
      refine wX8_nextYear_37 hL.c ?_
      refine wX8_nextYear_40 hL.E.1 ?_
      refine wX8_nextYear_43 (fun c43 => absurd c43 (show ¬ te_t (ls_T S1) ≤ nI k by rw [hn1]; exact nI_ge hkn (by omega))) (fun c43 => ?_)
      refine wX8_nextYear_46 ?_
      refine wX8_nextYear_47 ?_
      refine wX8_nextYear_48 ?_
      refine wX8_nextYear_49 hL.c (mX8_payTax hL hS3 (by omega) fun h3 hL2 ho2 => ?_)
      replace ho := ho.trans ho2
      replace hL := hL2
      clear hL2 ho2
      refine wX8_nextYear_52 ?_
      refine wX8_nextYear_53 ?_
      refine wX8_nextYear_54 ?_
      refine wX8_nextYear_57 ?_
      exact q_ls (by rw [nI_1]; rfl) (ih _ ⟨hL, ho⟩)
  · refine wX8_nextYear_16 ?_
    refine wX8_nextYear_19  ?_
    exact hk0 hl (Int32.not_lt.mp c13)
end CX8g

/-! SalaryCapLedger: what its cells say; what it wants of its arguments; plain questions -/
section CX8a
variable {V : q_En} {h : q_H} {z : Option Nat} {Kx : q_KX}
/-- text's length, text, error's place, loaded, terms, books, history -/
abbrev q_Ls : Type := Nat × (Nat → Int32) × Int32 × Bool × q_Te × q_Bk × q_Hs
abbrev ls_n (S : q_Ls) : Nat := S.1
abbrev ls_f (S : q_Ls) : Nat → Int32 := S.2.1
abbrev ls_e (S : q_Ls) : Int32 := S.2.2.1
abbrev ls_l (S : q_Ls) : Bool := S.2.2.2.1
abbrev ls_T (S : q_Ls) : q_Te := S.2.2.2.2.1
abbrev ls_B (S : q_Ls) : q_Bk := S.2.2.2.2.2.1
abbrev ls_H (S : q_Ls) : q_Hs := S.2.2.2.2.2.2
/-- where terms, books, spare terms, spare books, the reader's text lie; reader, releases, spare terms, spare books -/
abbrev q_Lx : Type := (Nat × Nat × Nat × Nat × Nat) × q_Rd × q_Rl × q_Te × q_Bk
abbrev lx_t (X : q_Lx) : Nat := X.1.1
abbrev lx_b (X : q_Lx) : Nat := X.1.2.1
abbrev lx_u (X : q_Lx) : Nat := X.1.2.2.1
abbrev lx_c (X : q_Lx) : Nat := X.1.2.2.2.1
abbrev lx_d (X : q_Lx) : Nat := X.1.2.2.2.2
def lx_ok (L t b u c : Nat) : Prop := (t = L + 611 ∧ b = L + 616 ∧ u = L + 676 ∧ c = L + 681) ∨ (t = L + 676 ∧ b = L + 681 ∧ u = L + 611 ∧ c = L + 616)
abbrev ledE (L n : Nat) (e : Int32) (l : Bool) (t b u c : Nat) : q_E := .inr (9, [.ref (L + 1), .int (nI n), .int e, .ref (L + 2), .ref (L + 5), .ref (L + 607), .int (q_b l), .ref t, .ref b, .ref u, .ref c])
def isLx (h : q_H) (L : Nat) (S : q_Ls) (X : q_Lx) : Prop :=
  lx_ok L (lx_t X) (lx_b X) (lx_u X) (lx_c X) ∧ h L = some (ledE L (ls_n S) (ls_e S) (ls_l S) (lx_t X) (lx_b X) (lx_u X) (lx_c X)) ∧ isY h (L + 1) 900 (ls_f S) ∧ h (L + 2) = some (readE (L + 2) (lx_d X) X.2.1) ∧ (∃ d, h (L + 4) = some (dealE d)) ∧ isHs h (L + 5) (ls_H S) ∧ isR h (L + 607) X.2.2.1 ∧
  isE h (lx_t X) (ls_T S) ∧ isB h (lx_b X) (ls_B S) ∧ isE h (lx_u X) X.2.2.2.1 ∧ isB h (lx_c X) X.2.2.2.2
def isL (h : q_H) (L : Nat) (S : q_Ls) : Prop := ∃ X, isLx h L S X
section
variable {L : Nat} {S : q_Ls} {X : q_Lx}
theorem isLx.k (hL : isLx h L S X) : lx_ok L (lx_t X) (lx_b X) (lx_u X) (lx_c X) := hL.1
theorem isLx.c (hL : isLx h L S X) : h L = some (ledE L (ls_n S) (ls_e S) (ls_l S) (lx_t X) (lx_b X) (lx_u X) (lx_c X)) := hL.2.1
theorem isLx.Y (hL : isLx h L S X) : isY h (L + 1) 900 (ls_f S) := hL.2.2.1
theorem isLx.r (hL : isLx h L S X) : h (L + 2) = some (readE (L + 2) (lx_d X) X.2.1) := hL.2.2.2.1
theorem isLx.d (hL : isLx h L S X) : ∃ d, h (L + 4) = some (dealE d) := hL.2.2.2.2.1
theorem isLx.H (hL : isLx h L S X) : isHs h (L + 5) (ls_H S) := hL.2.2.2.2.2.1
theorem isLx.R (hL : isLx h L S X) : isR h (L + 607) X.2.2.1 := hL.2.2.2.2.2.2.1
theorem isLx.E (hL : isLx h L S X) : isE h (lx_t X) (ls_T S) := hL.2.2.2.2.2.2.2.1
theorem isLx.B (hL : isLx h L S X) : isB h (lx_b X) (ls_B S) := hL.2.2.2.2.2.2.2.2.1
theorem isLx.U (hL : isLx h L S X) : isE h (lx_u X) X.2.2.2.1 := hL.2.2.2.2.2.2.2.2.2.1
theorem isLx.C (hL : isLx h L S X) : isB h (lx_c X) X.2.2.2.2 := hL.2.2.2.2.2.2.2.2.2.2
theorem isL.o {b m : Nat} {h' : q_H} (hL : isL h L S) (ho : q_out b m h h') (ne : L + 741 ≤ b ∨ b + m ≤ L) : isL h' L S := by
  obtain ⟨X, k, c, y, r, ⟨d, hd⟩, H, R, E, B, U, C⟩ := hL
  have k2 := k
  unfold lx_ok at k2
  exact ⟨X, k, by rw [ho _ (by omega)]; exact c, y.o ho (by omega), by rw [ho _ (by omega)]; exact r, ⟨d, by rw [ho _ (by omega)]; exact hd⟩, H.o ho (by omega), R.o ho (by omega), E.o ho (by omega), B.o ho (by omega), U.o ho (by omega), C.o ho (by omega)⟩
end
/-- what holds of a ledger's state from the start on -/
def okL (S : q_Ls) : Prop := ls_n S ≤ 900 ∧ (∃ k, k ≤ 4 ∧ te_n (ls_T S) = nI k) ∧ (∃ k, k ≤ 4 ∧ te_t (ls_T S) = nI k) ∧ (∃ k, k ≤ 24 ∧ te_p (ls_T S) = nI k) ∧ (ls_H S).2.1 < 10 ∧ (ls_H S).2.2 ≤ 10
abbrev E_st : String := "java/lang/IllegalStateException"
abbrev E_ar : String := "java/lang/IllegalArgumentException"
def rg (v lo hi : Int32) : Bool := decide (¬ v < lo ∧ v ≤ hi)
def gT (S : q_Ls) (t : Int32) : Bool := rg t 0 (te_t (ls_T S) - 1)
def gP (S : q_Ls) (p : Int32) : Bool := rg p 0 (te_p (ls_T S) - 1)
theorem rg_of {t n : Int32} {k m : Nat} (hk : k ≤ m) (hm : m < 2147483648) (hn : n = nI k) (hg : rg t 0 (n - 1) = true) : ∃ j, j < k ∧ t = nI j := by
  have hg := of_decide_eq_true hg
  by_cases q : k = 0
  · subst q
    subst hn
    exact absurd (Int32.lt_of_le_of_lt hg.2 (by decide)) hg.1
  · have e : n - 1 = nI (k - 1) := by rw [hn]; exact nI_sb (b := 1) (by omega)
    rw [e] at hg
    refine q_of (N := nI k) rfl (by omega) hg.1 (fun q2 => ?_)
    exact nI_ge (show k - 1 < k by omega) (by omega) (Int32.le_trans q2 hg.2)
theorem gT_of {S : q_Ls} {t : Int32} (hS : okL S) (hg : gT S t = true) : ∃ j, j < 4 ∧ t = nI j := by
  obtain ⟨k, hk, e⟩ := hS.2.2.1
  obtain ⟨j, hj, e2⟩ := rg_of hk (by decide) e hg
  exact ⟨j, by omega, e2⟩
theorem gP_of {S : q_Ls} {t : Int32} (hS : okL S) (hg : gP S t = true) : ∃ j, j < 24 ∧ t = nI j := by
  obtain ⟨k, hk, e⟩ := hS.2.2.2.1
  obtain ⟨j, hj, e2⟩ := rg_of hk (by decide) e hg
  exact ⟨j, by omega, e2⟩
theorem rg_t {v lo hi : Int32} (h1 : ¬ v < lo) (h2 : v ≤ hi) : rg v lo hi = true := decide_eq_true ⟨h1, h2⟩
theorem rg_f1 {v lo hi : Int32} (h1 : v < lo) : rg v lo hi = false := decide_eq_false fun q => q.1 h1
theorem rg_f2 {v lo hi : Int32} (h1 : ¬ v ≤ hi) : rg v lo hi = false := decide_eq_false fun q => h1 q.2
theorem mX8_requireRange {v lo hi : Int32} {P : q_H → Option Nat → Prop} (hk : rg v lo hi = true → P h z) (hx : rg v lo hi = false → Kx E_ar h) : QMv V iX8_requireRange [.int v, .int lo, .int hi] h z P Kx := by
  refine eX8_requireRange ?_
  refine wX8_requireRange_0 ?_
  refine wX8_requireRange_1 ?_
  refine wX8_requireRange_2 (fun c2 => ?_) (fun c2 => ?_)
  · refine wX8_requireRange_10 ?_
    first
      | exact hx (rg_f1 c2)
      | exact hx (rg_f2 c7)
  · refine wX8_requireRange_5 ?_
    refine wX8_requireRange_6 ?_
    refine wX8_requireRange_7 (fun c7 => ?_) (fun c7 => ?_)
    · refine wX8_requireRange_21  ?_
      exact hk (rg_t c2 c7)
    · refine wX8_requireRange_10 ?_
      first
        | exact hx (rg_f1 c2)
        | exact hx (rg_f2 c7)
theorem mX8_requireLeague {L : Nat} {S : q_Ls} {X : q_Lx} {P : q_H → Option Nat → Prop} (hL : isLx h L S X) (hk : ls_l S = true → P h z) (hx : ls_l S = false → Kx E_st h) : QMv V iX8_requireLeague [.ref L] h z P Kx := by
  refine eX8_requireLeague ?_
  refine wX8_requireLeague_0 ?_
  refine wX8_requireLeague_1 hL.c ?_
  refine wX8_requireLeague_4 (fun c4 => ?_) (fun c4 => ?_)
  · refine wX8_requireLeague_18  ?_
    exact hk (q_b1 c4)
  · refine wX8_requireLeague_7 ?_
    exact hx (q_bz.mp c4)
theorem mX8_requireTeam {L : Nat} {S : q_Ls} {X : q_Lx} {t : Int32} {P : q_H → Option Nat → Prop} (hL : isLx h L S X) (hk : gT S t = true → P h z) (hx : gT S t = false → Kx E_ar h) : QMv V iX8_requireTeam [.ref L, .int t] h z P Kx := by
  refine eX8_requireTeam ?_
  refine wX8_requireTeam_0 ?_
  refine wX8_requireTeam_1 ?_
  refine wX8_requireTeam_2 ?_
  refine wX8_requireTeam_3 hL.c ?_
  refine wX8_requireTeam_6 hL.E.1 ?_
  refine wX8_requireTeam_9 ?_
  refine wX8_requireTeam_10 ?_
  refine wX8_requireTeam_11 (mX8_requireRange (fun g => ?_) hx)
  refine wX8_requireTeam_14  ?_
  exact hk g
theorem mX8_requirePlayer {L : Nat} {S : q_Ls} {X : q_Lx} {t : Int32} {P : q_H → Option Nat → Prop} (hL : isLx h L S X) (hk : gP S t = true → P h z) (hx : gP S t = false → Kx E_ar h) : QMv V iX8_requirePlayer [.ref L, .int t] h z P Kx := by
  refine eX8_requirePlayer ?_
  refine wX8_requirePlayer_0 ?_
  refine wX8_requirePlayer_1 ?_
  refine wX8_requirePlayer_2 ?_
  refine wX8_requirePlayer_3 hL.c ?_
  refine wX8_requirePlayer_6 hL.E.1 ?_
  refine wX8_requirePlayer_9 ?_
  refine wX8_requirePlayer_10 ?_
  refine wX8_requirePlayer_11 (mX8_requireRange (fun g => ?_) hx)
  refine wX8_requirePlayer_14  ?_
  exact hk g
theorem mX8_requireNotNegative {t : Int32} {P : q_H → Option Nat → Prop} (hk : decide (0 ≤ t) = true → P h z) (hx : decide (0 ≤ t) = false → Kx E_ar h) : QMv V iX8_requireNotNegative [.int t] h z P Kx := by
  refine eX8_requireNotNegative ?_
  refine wX8_requireNotNegative_0 ?_
  refine wX8_requireNotNegative_1 (fun c1 => ?_) (fun c1 => ?_)
  · refine wX8_requireNotNegative_15  ?_
    exact hk (decide_eq_true c1)
  · refine wX8_requireNotNegative_4 ?_
    exact hx (decide_eq_false c1)
def g2T (S : q_Ls) (t u : Int32) : Bool := gT S t && gT S u && !decide (t = u)
def gTr (S : q_Ls) (t s u v : Int32) : Bool := g2T S t u && rg s 0 (((1 : Int32) <<< (te_p (ls_T S) &&& 31)) - 1) && rg v 0 (((1 : Int32) <<< (te_p (ls_T S) &&& 31)) - 1)
theorem mX8_requireTwoTeams {L : Nat} {S : q_Ls} {X : q_Lx} {t u : Int32} {P : q_H → Option Nat → Prop} (hL : isLx h L S X) (hk : g2T S t u = true → P h z) (hx : g2T S t u = false → Kx E_ar h) : QMv V iX8_requireTwoTeams [.ref L, .int t, .int u] h z P Kx := by
  refine eX8_requireTwoTeams ?_
  refine wX8_requireTwoTeams_0 ?_
  refine wX8_requireTwoTeams_1 ?_
  refine wX8_requireTwoTeams_2 hL.c (mX8_requireTeam hL (fun g1 => ?_) (fun g1 => hx (by simp [g2T, g1])))
  refine wX8_requireTwoTeams_5 ?_
  refine wX8_requireTwoTeams_6 ?_
  refine wX8_requireTwoTeams_7 hL.c (mX8_requireTeam hL (fun g2 => ?_) (fun g2 => hx (by simp [g2T, g2])))
  refine wX8_requireTwoTeams_10 ?_
  refine wX8_requireTwoTeams_11 ?_
  refine wX8_requireTwoTeams_12 (fun c12 => ?_) (fun c12 => ?_)
  · refine wX8_requireTwoTeams_26  ?_
    exact hk (by simp [g2T, g1, g2, c12])
  · refine wX8_requireTwoTeams_15 ?_
    exact hx (by simp [g2T, c12])
theorem mX8_requireTrade {L : Nat} {S : q_Ls} {X : q_Lx} {t s u v : Int32} {P : q_H → Option Nat → Prop} (hL : isLx h L S X) (hk : gTr S t s u v = true → P h z) (hx : gTr S t s u v = false → Kx E_ar h) : QMv V iX8_requireTrade [.ref L, .int t, .int s, .int u, .int v] h z P Kx := by
  refine eX8_requireTrade ?_
  refine wX8_requireTrade_0 ?_
  refine wX8_requireTrade_1 ?_
  refine wX8_requireTrade_2 ?_
  refine wX8_requireTrade_3 hL.c (mX8_requireTwoTeams hL (fun g1 => ?_) (fun g1 => hx (by simp [gTr, g1])))
  refine wX8_requireTrade_6 ?_
  refine wX8_requireTrade_7 ?_
  refine wX8_requireTrade_8 ?_
  refine wX8_requireTrade_9 ?_
  refine wX8_requireTrade_10 hL.c ?_
  refine wX8_requireTrade_13 hL.E.1 ?_
  refine wX8_requireTrade_16 ?_
  refine wX8_requireTrade_17 ?_
  refine wX8_requireTrade_18 ?_
  refine wX8_requireTrade_19 (mX8_requireRange (fun g2 => ?_) (fun g2 => hx (by simp [gTr, g2])))
  refine wX8_requireTrade_22 ?_
  refine wX8_requireTrade_24 ?_
  refine wX8_requireTrade_25 ?_
  refine wX8_requireTrade_26 ?_
  refine wX8_requireTrade_27 hL.c ?_
  refine wX8_requireTrade_30 hL.E.1 ?_
  refine wX8_requireTrade_33 ?_
  refine wX8_requireTrade_34 ?_
  refine wX8_requireTrade_35 ?_
  refine wX8_requireTrade_36 (mX8_requireRange (fun g3 => ?_) (fun g3 => hx (by simp [gTr, g3])))
  refine wX8_requireTrade_39  ?_
  exact hk (by simp [gTr, g1, g2, g3])
def l_room (S : q_Ls) (j : Nat) : Int32 := te_ci (ls_T S) (b_w (ls_B S)) - b_ch (ls_B S) j (b_w (ls_B S))
def l_tax (S : q_Ls) (j : Nat) (c : Int32) : Int64 := te_tax (ls_T S) c (b_w (ls_B S)) (t_x (b_t (ls_B S) j))
theorem mX8_roomOf {L : Nat} {S : q_Ls} {X : q_Lx} {j : Nat} {P : Int32 → q_H → Option Nat → Prop} (hL : isLx h L S X) (hj : j < 4) (hk : P (l_room S j) h z) : QMi V iX8_roomOf [.ref L, .int (nI j)] h z P Kx := by
  refine eX8_roomOf ?_
  refine wX8_roomOf_0 ?_
  refine wX8_roomOf_1 hL.c ?_
  refine wX8_roomOf_4 ?_
  refine wX8_roomOf_5 hL.c ?_
  refine wX8_roomOf_8 hL.B.1 ?_
  refine wX8_roomOf_11 hL.E.1 (mX7_capIn hL.E ?_)
  refine wX8_roomOf_14 ?_
  refine wX8_roomOf_15 hL.c ?_
  refine wX8_roomOf_18 ?_
  refine wX8_roomOf_19 ?_
  refine wX8_roomOf_20 hL.c ?_
  refine wX8_roomOf_23 hL.B.1 ?_
  refine wX8_roomOf_26 hL.B.1 (mX0_chargeIn hL.B hj ?_)
  refine wX8_roomOf_29 ?_
  refine wX8_roomOf_30  ?_
  exact hk
theorem mX8_taxOn {L : Nat} {S : q_Ls} {X : q_Lx} {j : Nat} {c : Int32} {P : Int64 → q_H → Option Nat → Prop} (hL : isLx h L S X) (hS : okL S) (hj : j < 4) (hk : P (l_tax S j c) h z) : QMl V iX8_taxOn [.ref L, .int (nI j), .int c] h z P Kx := by
  obtain ⟨n, hn4, hn⟩ := hS.2.1
  refine eX8_taxOn ?_
  refine wX8_taxOn_0 ?_
  refine wX8_taxOn_1 hL.c ?_
  refine wX8_taxOn_4 ?_
  refine wX8_taxOn_5 ?_
  refine wX8_taxOn_6 hL.c ?_
  refine wX8_taxOn_9 hL.B.1 ?_
  refine wX8_taxOn_12 ?_
  refine wX8_taxOn_13 hL.c ?_
  refine wX8_taxOn_16 hL.B.1 ?_
  refine wX8_taxOn_19 ?_
  refine wX8_taxOn_20 (t := 5) rfl hL.B.2.2.1 rfl hj (by decide) (if_pos hj) ?_
  refine wX8_taxOn_21 (hL.B.T hj).1 ?_
  refine wX8_taxOn_24 hL.E.1 (mX7_taxOf hL.E hn hn4 ?_)
  refine wX8_taxOn_27  ?_
  exact hk
theorem mX8_year {L : Nat} {S : q_Ls} {X : q_Lx}  {P : Int32 → q_H → Option Nat → Prop} (hL : isLx h L S X) (hS : okL S) (hk : ls_l S = true → P (b_w (ls_B S)) h z) (h1 : ls_l S = false → Kx E_st h) : QMi V iX8_year [.ref L] h z P Kx := by
  refine eX8_year ?_
  refine wX8_year_0 ?_
  refine wX8_year_1 hL.c (mX8_requireLeague hL (fun hl => ?_) h1)
  refine wX8_year_4 ?_
  refine wX8_year_5 hL.c ?_
  refine wX8_year_8 hL.B.1 ?_
  refine wX8_year_11  ?_
  exact hk hl 
theorem mX8_cap {L : Nat} {S : q_Ls} {X : q_Lx} {x : Int32} {P : Int32 → q_H → Option Nat → Prop} (hL : isLx h L S X) (hS : okL S) (hk : ls_l S = true → (rg x 0 11) = true → P (te_ci (ls_T S) (b_w (ls_B S) + x)) h z) (h1 : ls_l S = false → Kx E_st h) (h2 : ls_l S = true → (rg x 0 11) = false → Kx E_ar h) : QMi V iX8_cap [.ref L, .int x] h z P Kx := by
  refine eX8_cap ?_
  refine wX8_cap_0 ?_
  refine wX8_cap_1 hL.c (mX8_requireLeague hL (fun hl => ?_) h1)
  refine wX8_cap_4 ?_
  refine wX8_cap_5 ?_
  refine wX8_cap_6 ?_
  refine wX8_cap_8 (mX8_requireRange (fun g1 => ?_) (fun g1 => h2 hl (by simp [g1])))
  refine wX8_cap_11 ?_
  refine wX8_cap_12 hL.c ?_
  refine wX8_cap_15 ?_
  refine wX8_cap_16 hL.c ?_
  refine wX8_cap_19 hL.B.1 ?_
  refine wX8_cap_22 ?_
  refine wX8_cap_23 ?_
  refine wX8_cap_24 hL.E.1 (mX7_capIn hL.E ?_)
  refine wX8_cap_27  ?_
  exact hk hl (by simp [g1]) 
theorem mX8_taxLine {L : Nat} {S : q_Ls} {X : q_Lx} {x : Int32} {P : Int32 → q_H → Option Nat → Prop} (hL : isLx h L S X) (hS : okL S) (hk : ls_l S = true → (rg x 0 11) = true → P (te_li (ls_T S) (b_w (ls_B S) + x)) h z) (h1 : ls_l S = false → Kx E_st h) (h2 : ls_l S = true → (rg x 0 11) = false → Kx E_ar h) : QMi V iX8_taxLine [.ref L, .int x] h z P Kx := by
  refine eX8_taxLine ?_
  refine wX8_taxLine_0 ?_
  refine wX8_taxLine_1 hL.c (mX8_requireLeague hL (fun hl => ?_) h1)
  refine wX8_taxLine_4 ?_
  refine wX8_taxLine_5 ?_
  refine wX8_taxLine_6 ?_
  refine wX8_taxLine_8 (mX8_requireRange (fun g1 => ?_) (fun g1 => h2 hl (by simp [g1])))
  refine wX8_taxLine_11 ?_
  refine wX8_taxLine_12 hL.c ?_
  refine wX8_taxLine_15 ?_
  refine wX8_taxLine_16 hL.c ?_
  refine wX8_taxLine_19 hL.B.1 ?_
  refine wX8_taxLine_22 ?_
  refine wX8_taxLine_23 ?_
  refine wX8_taxLine_24 hL.E.1 (mX7_taxLineIn hL.E ?_)
  refine wX8_taxLine_27  ?_
  exact hk hl (by simp [g1]) 
theorem mX8_charge {L : Nat} {S : q_Ls} {X : q_Lx} {t : Int32} {x : Int32} {P : Int32 → q_H → Option Nat → Prop} (hL : isLx h L S X) (hS : okL S) (hk : ls_l S = true → (gT S t && rg x 0 11) = true → ∀ j, j < 4 → t = nI j → P (b_ch (ls_B S) j (b_w (ls_B S) + x)) h z) (h1 : ls_l S = false → Kx E_st h) (h2 : ls_l S = true → (gT S t && rg x 0 11) = false → Kx E_ar h) : QMi V iX8_charge [.ref L, .int t, .int x] h z P Kx := by
  refine eX8_charge ?_
  refine wX8_charge_0 ?_
  refine wX8_charge_1 hL.c (mX8_requireLeague hL (fun hl => ?_) h1)
  refine wX8_charge_4 ?_
  refine wX8_charge_5 ?_
  refine wX8_charge_6 hL.c (mX8_requireTeam hL (fun g1 => ?_) (fun g1 => h2 hl (by simp [g1])))
  obtain ⟨j, hj, rfl⟩ := gT_of hS g1
  refine wX8_charge_9 ?_
  refine wX8_charge_10 ?_
  refine wX8_charge_11 ?_
  refine wX8_charge_13 (mX8_requireRange (fun g2 => ?_) (fun g2 => h2 hl (by simp [g2])))
  refine wX8_charge_16 ?_
  refine wX8_charge_17 hL.c ?_
  refine wX8_charge_20 ?_
  refine wX8_charge_21 ?_
  refine wX8_charge_22 hL.c ?_
  refine wX8_charge_25 hL.B.1 ?_
  refine wX8_charge_28 ?_
  refine wX8_charge_29 ?_
  refine wX8_charge_30 hL.B.1 (mX0_chargeIn hL.B hj ?_)
  refine wX8_charge_33  ?_
  exact hk hl (by simp [g1, g2]) j hj rfl
theorem mX8_deadMoney {L : Nat} {S : q_Ls} {X : q_Lx} {t : Int32} {x : Int32} {P : Int32 → q_H → Option Nat → Prop} (hL : isLx h L S X) (hS : okL S) (hk : ls_l S = true → (gT S t && rg x 0 11) = true → ∀ j, j < 4 → t = nI j → P (t_in (b_t (ls_B S) j) (b_w (ls_B S) + x)) h z) (h1 : ls_l S = false → Kx E_st h) (h2 : ls_l S = true → (gT S t && rg x 0 11) = false → Kx E_ar h) : QMi V iX8_deadMoney [.ref L, .int t, .int x] h z P Kx := by
  refine eX8_deadMoney ?_
  refine wX8_deadMoney_0 ?_
  refine wX8_deadMoney_1 hL.c (mX8_requireLeague hL (fun hl => ?_) h1)
  refine wX8_deadMoney_4 ?_
  refine wX8_deadMoney_5 ?_
  refine wX8_deadMoney_6 hL.c (mX8_requireTeam hL (fun g1 => ?_) (fun g1 => h2 hl (by simp [g1])))
  obtain ⟨j, hj, rfl⟩ := gT_of hS g1
  refine wX8_deadMoney_9 ?_
  refine wX8_deadMoney_10 ?_
  refine wX8_deadMoney_11 ?_
  refine wX8_deadMoney_13 (mX8_requireRange (fun g2 => ?_) (fun g2 => h2 hl (by simp [g2])))
  refine wX8_deadMoney_16 ?_
  refine wX8_deadMoney_17 hL.c ?_
  refine wX8_deadMoney_20 hL.B.1 ?_
  refine wX8_deadMoney_23 ?_
  refine wX8_deadMoney_24 (t := 5) rfl hL.B.2.2.1 rfl hj (by decide) (if_pos hj) ?_
  refine wX8_deadMoney_25 ?_
  refine wX8_deadMoney_26 hL.c ?_
  refine wX8_deadMoney_29 hL.B.1 ?_
  refine wX8_deadMoney_32 ?_
  refine wX8_deadMoney_33 ?_
  refine wX8_deadMoney_34 (hL.B.T hj).1 (mX6_deadIn (hL.B.T hj) ?_)
  refine wX8_deadMoney_37  ?_
  exact hk hl (by simp [g1, g2]) j hj rfl
theorem mX8_room {L : Nat} {S : q_Ls} {X : q_Lx} {t : Int32} {P : Int32 → q_H → Option Nat → Prop} (hL : isLx h L S X) (hS : okL S) (hk : ls_l S = true → (gT S t) = true → ∀ j, j < 4 → t = nI j → P (l_room S j) h z) (h1 : ls_l S = false → Kx E_st h) (h2 : ls_l S = true → (gT S t) = false → Kx E_ar h) : QMi V iX8_room [.ref L, .int t] h z P Kx := by
  refine eX8_room ?_
  refine wX8_room_0 ?_
  refine wX8_room_1 hL.c (mX8_requireLeague hL (fun hl => ?_) h1)
  refine wX8_room_4 ?_
  refine wX8_room_5 ?_
  refine wX8_room_6 hL.c (mX8_requireTeam hL (fun g1 => ?_) (fun g1 => h2 hl (by simp [g1])))
  obtain ⟨j, hj, rfl⟩ := gT_of hS g1
  refine wX8_room_9 ?_
  refine wX8_room_10 ?_
  refine wX8_room_11 hL.c (mX8_roomOf hL hj ?_)
  refine wX8_room_14  ?_
  exact hk hl (by simp [g1]) j hj rfl
theorem mX8_tax {L : Nat} {S : q_Ls} {X : q_Lx} {t : Int32} {P : Int64 → q_H → Option Nat → Prop} (hL : isLx h L S X) (hS : okL S) (hk : ls_l S = true → (gT S t) = true → ∀ j, j < 4 → t = nI j → P (l_tax S j (b_ch (ls_B S) j (b_w (ls_B S)))) h z) (h1 : ls_l S = false → Kx E_st h) (h2 : ls_l S = true → (gT S t) = false → Kx E_ar h) : QMl V iX8_tax [.ref L, .int t] h z P Kx := by
  refine eX8_tax ?_
  refine wX8_tax_0 ?_
  refine wX8_tax_1 hL.c (mX8_requireLeague hL (fun hl => ?_) h1)
  refine wX8_tax_4 ?_
  refine wX8_tax_5 ?_
  refine wX8_tax_6 hL.c (mX8_requireTeam hL (fun g1 => ?_) (fun g1 => h2 hl (by simp [g1])))
  obtain ⟨j, hj, rfl⟩ := gT_of hS g1
  refine wX8_tax_9 ?_
  refine wX8_tax_10 ?_
  refine wX8_tax_11 ?_
  refine wX8_tax_12 hL.c ?_
  refine wX8_tax_15 ?_
  refine wX8_tax_16 hL.B.1 (mX0_chargeNow hL.B hj ?_)
  refine wX8_tax_19 hL.c (mX8_taxOn hL hS hj ?_)
  refine wX8_tax_22  ?_
  exact hk hl (by simp [g1]) j hj rfl
theorem mX8_paid {L : Nat} {S : q_Ls} {X : q_Lx} {t : Int32} {P : Int64 → q_H → Option Nat → Prop} (hL : isLx h L S X) (hS : okL S) (hk : ls_l S = true → (gT S t) = true → ∀ j, j < 4 → t = nI j → P (t_p (b_t (ls_B S) j)) h z) (h1 : ls_l S = false → Kx E_st h) (h2 : ls_l S = true → (gT S t) = false → Kx E_ar h) : QMl V iX8_paid [.ref L, .int t] h z P Kx := by
  refine eX8_paid ?_
  refine wX8_paid_0 ?_
  refine wX8_paid_1 hL.c (mX8_requireLeague hL (fun hl => ?_) h1)
  refine wX8_paid_4 ?_
  refine wX8_paid_5 ?_
  refine wX8_paid_6 hL.c (mX8_requireTeam hL (fun g1 => ?_) (fun g1 => h2 hl (by simp [g1])))
  obtain ⟨j, hj, rfl⟩ := gT_of hS g1
  refine wX8_paid_9 ?_
  refine wX8_paid_10 hL.c ?_
  refine wX8_paid_13 hL.B.1 ?_
  refine wX8_paid_16 ?_
  refine wX8_paid_17 (t := 5) rfl hL.B.2.2.1 rfl hj (by decide) (if_pos hj) ?_
  refine wX8_paid_18 (hL.B.T hj).1 ?_
  refine wX8_paid_21  ?_
  exact hk hl (by simp [g1]) j hj rfl
theorem mX8_taxedYears {L : Nat} {S : q_Ls} {X : q_Lx} {t : Int32} {P : Int32 → q_H → Option Nat → Prop} (hL : isLx h L S X) (hS : okL S) (hk : ls_l S = true → (gT S t) = true → ∀ j, j < 4 → t = nI j → P (t_x (b_t (ls_B S) j)) h z) (h1 : ls_l S = false → Kx E_st h) (h2 : ls_l S = true → (gT S t) = false → Kx E_ar h) : QMi V iX8_taxedYears [.ref L, .int t] h z P Kx := by
  refine eX8_taxedYears ?_
  refine wX8_taxedYears_0 ?_
  refine wX8_taxedYears_1 hL.c (mX8_requireLeague hL (fun hl => ?_) h1)
  refine wX8_taxedYears_4 ?_
  refine wX8_taxedYears_5 ?_
  refine wX8_taxedYears_6 hL.c (mX8_requireTeam hL (fun g1 => ?_) (fun g1 => h2 hl (by simp [g1])))
  obtain ⟨j, hj, rfl⟩ := gT_of hS g1
  refine wX8_taxedYears_9 ?_
  refine wX8_taxedYears_10 hL.c ?_
  refine wX8_taxedYears_13 hL.B.1 ?_
  refine wX8_taxedYears_16 ?_
  refine wX8_taxedYears_17 (t := 5) rfl hL.B.2.2.1 rfl hj (by decide) (if_pos hj) ?_
  refine wX8_taxedYears_18 (hL.B.T hj).1 ?_
  refine wX8_taxedYears_21  ?_
  exact hk hl (by simp [g1]) j hj rfl
theorem mX8_midLevel {L : Nat} {S : q_Ls} {X : q_Lx} {t : Int32} {P : Int32 → q_H → Option Nat → Prop} (hL : isLx h L S X) (hS : okL S) (hk : ls_l S = true → (gT S t) = true → ∀ j, j < 4 → t = nI j → P (t_m (b_t (ls_B S) j)) h z) (h1 : ls_l S = false → Kx E_st h) (h2 : ls_l S = true → (gT S t) = false → Kx E_ar h) : QMi V iX8_midLevel [.ref L, .int t] h z P Kx := by
  refine eX8_midLevel ?_
  refine wX8_midLevel_0 ?_
  refine wX8_midLevel_1 hL.c (mX8_requireLeague hL (fun hl => ?_) h1)
  refine wX8_midLevel_4 ?_
  refine wX8_midLevel_5 ?_
  refine wX8_midLevel_6 hL.c (mX8_requireTeam hL (fun g1 => ?_) (fun g1 => h2 hl (by simp [g1])))
  obtain ⟨j, hj, rfl⟩ := gT_of hS g1
  refine wX8_midLevel_9 ?_
  refine wX8_midLevel_10 hL.c ?_
  refine wX8_midLevel_13 hL.B.1 ?_
  refine wX8_midLevel_16 ?_
  refine wX8_midLevel_17 (t := 5) rfl hL.B.2.2.1 rfl hj (by decide) (if_pos hj) ?_
  refine wX8_midLevel_18 (hL.B.T hj).1 ?_
  refine wX8_midLevel_21  ?_
  exact hk hl (by simp [g1]) j hj rfl
theorem mX8_roster {L : Nat} {S : q_Ls} {X : q_Lx} {t : Int32} {P : Int32 → q_H → Option Nat → Prop} (hL : isLx h L S X) (hS : okL S) (hk : ls_l S = true → (gT S t) = true → ∀ j, j < 4 → t = nI j → P (b_set (ls_B S) (nI j) 24) h z) (h1 : ls_l S = false → Kx E_st h) (h2 : ls_l S = true → (gT S t) = false → Kx E_ar h) : QMi V iX8_roster [.ref L, .int t] h z P Kx := by
  refine eX8_roster ?_
  refine wX8_roster_0 ?_
  refine wX8_roster_1 hL.c (mX8_requireLeague hL (fun hl => ?_) h1)
  refine wX8_roster_4 ?_
  refine wX8_roster_5 ?_
  refine wX8_roster_6 hL.c (mX8_requireTeam hL (fun g1 => ?_) (fun g1 => h2 hl (by simp [g1])))
  obtain ⟨j, hj, rfl⟩ := gT_of hS g1
  refine wX8_roster_9 ?_
  refine wX8_roster_10 hL.c ?_
  refine wX8_roster_13 ?_
  refine wX8_roster_14 hL.B.1 (mX0_playersOf hL.B ?_)
  refine wX8_roster_17  ?_
  exact hk hl (by simp [g1]) j hj rfl
theorem mX8_salary {L : Nat} {S : q_Ls} {X : q_Lx} {p : Int32} {x : Int32} {P : Int32 → q_H → Option Nat → Prop} (hL : isLx h L S X) (hS : okL S) (hk : ls_l S = true → (gP S p && rg x 0 11) = true → ∀ i, i < 24 → p = nI i → P (pl_sal (b_p (ls_B S) i) (b_w (ls_B S) + x)) h z) (h1 : ls_l S = false → Kx E_st h) (h2 : ls_l S = true → (gP S p && rg x 0 11) = false → Kx E_ar h) : QMi V iX8_salary [.ref L, .int p, .int x] h z P Kx := by
  refine eX8_salary ?_
  refine wX8_salary_0 ?_
  refine wX8_salary_1 hL.c (mX8_requireLeague hL (fun hl => ?_) h1)
  refine wX8_salary_4 ?_
  refine wX8_salary_5 ?_
  refine wX8_salary_6 hL.c (mX8_requirePlayer hL (fun g1 => ?_) (fun g1 => h2 hl (by simp [g1])))
  obtain ⟨i, hi, rfl⟩ := gP_of hS g1
  refine wX8_salary_9 ?_
  refine wX8_salary_10 ?_
  refine wX8_salary_11 ?_
  refine wX8_salary_13 (mX8_requireRange (fun g2 => ?_) (fun g2 => h2 hl (by simp [g2])))
  refine wX8_salary_16 ?_
  refine wX8_salary_17 hL.c ?_
  refine wX8_salary_20 hL.B.1 ?_
  refine wX8_salary_23 ?_
  refine wX8_salary_24 (t := 4) rfl hL.B.2.1 rfl hi (by decide) (if_pos hi) ?_
  refine wX8_salary_25 ?_
  refine wX8_salary_26 hL.c ?_
  refine wX8_salary_29 hL.B.1 ?_
  refine wX8_salary_32 ?_
  refine wX8_salary_33 ?_
  refine wX8_salary_34 (hL.B.P hi).1 (mX3_salaryIn (hL.B.P hi) ?_)
  refine wX8_salary_37  ?_
  exact hk hl (by simp [g1, g2]) i hi rfl
theorem mX8_share {L : Nat} {S : q_Ls} {X : q_Lx} {p : Int32} {x : Int32} {P : Int32 → q_H → Option Nat → Prop} (hL : isLx h L S X) (hS : okL S) (hk : ls_l S = true → (gP S p && rg x 0 11) = true → ∀ i, i < 24 → p = nI i → P (pl_shr (b_p (ls_B S) i) (b_w (ls_B S) + x)) h z) (h1 : ls_l S = false → Kx E_st h) (h2 : ls_l S = true → (gP S p && rg x 0 11) = false → Kx E_ar h) : QMi V iX8_share [.ref L, .int p, .int x] h z P Kx := by
  refine eX8_share ?_
  refine wX8_share_0 ?_
  refine wX8_share_1 hL.c (mX8_requireLeague hL (fun hl => ?_) h1)
  refine wX8_share_4 ?_
  refine wX8_share_5 ?_
  refine wX8_share_6 hL.c (mX8_requirePlayer hL (fun g1 => ?_) (fun g1 => h2 hl (by simp [g1])))
  obtain ⟨i, hi, rfl⟩ := gP_of hS g1
  refine wX8_share_9 ?_
  refine wX8_share_10 ?_
  refine wX8_share_11 ?_
  refine wX8_share_13 (mX8_requireRange (fun g2 => ?_) (fun g2 => h2 hl (by simp [g2])))
  refine wX8_share_16 ?_
  refine wX8_share_17 hL.c ?_
  refine wX8_share_20 hL.B.1 ?_
  refine wX8_share_23 ?_
  refine wX8_share_24 (t := 4) rfl hL.B.2.1 rfl hi (by decide) (if_pos hi) ?_
  refine wX8_share_25 ?_
  refine wX8_share_26 hL.c ?_
  refine wX8_share_29 hL.B.1 ?_
  refine wX8_share_32 ?_
  refine wX8_share_33 ?_
  refine wX8_share_34 (hL.B.P hi).1 (mX3_shareIn (hL.B.P hi) ?_)
  refine wX8_share_37  ?_
  exact hk hl (by simp [g1, g2]) i hi rfl
theorem mX8_releaseGain {L : Nat} {S : q_Ls} {X : q_Lx} {p : Int32} {s : Int32} {P : Int32 → q_H → Option Nat → Prop} (hL : isLx h L S X) (hS : okL S) (hk : ls_l S = true → (gP S p) = true → ∀ i, i < 24 → p = nI i → P (if pl_has (b_p (ls_B S) i) = true then pl_gn (b_p (ls_B S) i) (b_w (ls_B S)) s else 0) h z) (h1 : ls_l S = false → Kx E_st h) (h2 : ls_l S = true → (gP S p) = false → Kx E_ar h) : QMi V iX8_releaseGain [.ref L, .int p, .int s] h z P Kx := by
  refine eX8_releaseGain ?_
  refine wX8_releaseGain_0 ?_
  refine wX8_releaseGain_1 hL.c (mX8_requireLeague hL (fun hl => ?_) h1)
  refine wX8_releaseGain_4 ?_
  refine wX8_releaseGain_5 ?_
  refine wX8_releaseGain_6 hL.c (mX8_requirePlayer hL (fun g1 => ?_) (fun g1 => h2 hl (by simp [g1])))
  obtain ⟨i, hi, rfl⟩ := gP_of hS g1
  refine wX8_releaseGain_9 ?_
  refine wX8_releaseGain_10 hL.c ?_
  refine wX8_releaseGain_13 hL.B.1 ?_
  refine wX8_releaseGain_16 ?_
  refine wX8_releaseGain_17 (t := 4) rfl hL.B.2.1 rfl hi (by decide) (if_pos hi) ?_
  refine wX8_releaseGain_18 ?_
  refine wX8_releaseGain_19 ?_
  refine wX8_releaseGain_20 (hL.B.P hi).1 (mX3_hasContract (hL.B.P hi) ?_)
  refine wX8_releaseGain_23 (fun c23 => ?_) (fun c23 => ?_)
  · refine wX8_releaseGain_41 ?_
    refine wX8_releaseGain_42  ?_
    first
      | exact q_cv (by rw [if_pos (q_b1 c23)]) (hk hl (by simp [g1]) i hi rfl)
      | exact q_cv (by rw [if_neg (by rw [q_b0 c23]; decide)]) (hk hl (by simp [g1]) i hi rfl)
  · refine wX8_releaseGain_26 ?_
    refine wX8_releaseGain_27 ?_
    refine wX8_releaseGain_28 hL.c ?_
    refine wX8_releaseGain_31 hL.B.1 ?_
    refine wX8_releaseGain_34 ?_
    refine wX8_releaseGain_35 (hL.B.P hi).1 (mX3_gainIfReleased (hL.B.P hi) ?_)
    refine wX8_releaseGain_38 ?_
    refine wX8_releaseGain_42  ?_
    first
      | exact q_cv (by rw [if_pos (q_b1 c23)]) (hk hl (by simp [g1]) i hi rfl)
      | exact q_cv (by rw [if_neg (by rw [q_b0 c23]; decide)]) (hk hl (by simp [g1]) i hi rfl)
theorem mX8_releaseCost {L : Nat} {S : q_Ls} {X : q_Lx} {p : Int32} {s : Int32} {x : Int32} {P : Int32 → q_H → Option Nat → Prop} (hL : isLx h L S X) (hS : okL S) (hk : ls_l S = true → (gP S p && rg x 0 11) = true → ∀ i, i < 24 → p = nI i → P (if pl_has (b_p (ls_B S) i) = true then pl_rc (b_p (ls_B S) i) (b_w (ls_B S)) s x else -2) h z) (h1 : ls_l S = false → Kx E_st h) (h2 : ls_l S = true → (gP S p && rg x 0 11) = false → Kx E_ar h) : QMi V iX8_releaseCost [.ref L, .int p, .int s, .int x] h z P Kx := by
  refine eX8_releaseCost ?_
  refine wX8_releaseCost_0 ?_
  refine wX8_releaseCost_1 hL.c (mX8_requireLeague hL (fun hl => ?_) h1)
  refine wX8_releaseCost_4 ?_
  refine wX8_releaseCost_5 ?_
  refine wX8_releaseCost_6 hL.c (mX8_requirePlayer hL (fun g1 => ?_) (fun g1 => h2 hl (by simp [g1])))
  obtain ⟨i, hi, rfl⟩ := gP_of hS g1
  refine wX8_releaseCost_9 ?_
  refine wX8_releaseCost_10 ?_
  refine wX8_releaseCost_11 ?_
  refine wX8_releaseCost_13 (mX8_requireRange (fun g2 => ?_) (fun g2 => h2 hl (by simp [g2])))
  refine wX8_releaseCost_16 ?_
  refine wX8_releaseCost_17 hL.c ?_
  refine wX8_releaseCost_20 hL.B.1 ?_
  refine wX8_releaseCost_23 ?_
  refine wX8_releaseCost_24 (t := 4) rfl hL.B.2.1 rfl hi (by decide) (if_pos hi) ?_
  refine wX8_releaseCost_25 ?_
  refine wX8_releaseCost_27 ?_
  refine wX8_releaseCost_29 (hL.B.P hi).1 (mX3_hasContract (hL.B.P hi) ?_)
  refine wX8_releaseCost_32 (fun c32 => ?_) (fun c32 => ?_)
  · refine wX8_releaseCost_52 ?_
    refine wX8_releaseCost_54  ?_
    first
      | exact q_cv (by rw [if_pos (q_b1 c32)]) (hk hl (by simp [g1, g2]) i hi rfl)
      | exact q_cv (by rw [if_neg (by rw [q_b0 c32]; decide)]) (hk hl (by simp [g1, g2]) i hi rfl)
  · refine wX8_releaseCost_35 ?_
    refine wX8_releaseCost_37 ?_
    refine wX8_releaseCost_38 hL.c ?_
    refine wX8_releaseCost_41 hL.B.1 ?_
    refine wX8_releaseCost_44 ?_
    refine wX8_releaseCost_45 ?_
    refine wX8_releaseCost_46 (hL.B.P hi).1 (mX3_releaseCostAhead (hL.B.P hi) ?_)
    refine wX8_releaseCost_49 ?_
    refine wX8_releaseCost_54  ?_
    first
      | exact q_cv (by rw [if_pos (q_b1 c32)]) (hk hl (by simp [g1, g2]) i hi rfl)
      | exact q_cv (by rw [if_neg (by rw [q_b0 c32]; decide)]) (hk hl (by simp [g1, g2]) i hi rfl)
def l_off (S : q_Ls) (x : Int32) : Int32 := if x = 0 then d_b (b_o (ls_B S)) else if x = 1 then d_r (b_o (ls_B S)) else if x = 2 then d_n (b_o (ls_B S)) else if x = 3 then d_s (b_o (ls_B S)) else d_g (b_o (ls_B S))
theorem mX8_offer {L : Nat} {S : q_Ls} {X : q_Lx} {x : Int32} {P : Int32 → q_H → Option Nat → Prop} (hL : isLx h L S X) (hS : okL S) (hk : ls_l S = true → (rg x 0 4) = true → P (l_off S x) h z) (h1 : ls_l S = false → Kx E_st h) (h2 : ls_l S = true → (rg x 0 4) = false → Kx E_ar h) : QMi V iX8_offer [.ref L, .int x] h z P Kx := by
  refine eX8_offer ?_
  refine wX8_offer_0 ?_
  refine wX8_offer_1 hL.c (mX8_requireLeague hL (fun hl => ?_) h1)
  refine wX8_offer_4 ?_
  refine wX8_offer_5 ?_
  refine wX8_offer_6 ?_
  refine wX8_offer_7 (mX8_requireRange (fun g1 => ?_) (fun g1 => h2 hl (by simp [g1])))
  refine wX8_offer_10 ?_
  refine wX8_offer_11 (fun c11 => ?_) (fun c11 => ?_) (fun c11 => ?_) (fun c11 => ?_) (fun c11 => ?_)
  · refine wX8_offer_40 ?_
    refine wX8_offer_41 hL.c ?_
    refine wX8_offer_44 hL.B.1 ?_
    refine wX8_offer_47 hL.B.2.2.2.1 ?_
    refine wX8_offer_50  ?_
    subst c11; exact (hk hl (by simp [g1]) )
  · refine wX8_offer_51 ?_
    refine wX8_offer_52 hL.c ?_
    refine wX8_offer_55 hL.B.1 ?_
    refine wX8_offer_58 hL.B.2.2.2.1 ?_
    refine wX8_offer_61  ?_
    subst c11; exact (hk hl (by simp [g1]) )
  · refine wX8_offer_62 ?_
    refine wX8_offer_63 hL.c ?_
    refine wX8_offer_66 hL.B.1 ?_
    refine wX8_offer_69 hL.B.2.2.2.1 ?_
    refine wX8_offer_72  ?_
    subst c11; exact (hk hl (by simp [g1]) )
  · refine wX8_offer_73 ?_
    refine wX8_offer_74 hL.c ?_
    refine wX8_offer_77 hL.B.1 ?_
    refine wX8_offer_80 hL.B.2.2.2.1 ?_
    refine wX8_offer_83  ?_
    subst c11; exact (hk hl (by simp [g1]) )
  · refine wX8_offer_84 ?_
    refine wX8_offer_85 hL.c ?_
    refine wX8_offer_88 hL.B.1 ?_
    refine wX8_offer_91 hL.B.2.2.2.1 ?_
    refine wX8_offer_94  ?_
    refine q_cv ?_ (hk hl (by simp [g1]) )
    rw [l_off, if_neg (by rintro rfl; exact absurd c11 (by decide)), if_neg (by rintro rfl; exact absurd c11 (by decide)), if_neg (by rintro rfl; exact absurd c11 (by decide)), if_neg (by rintro rfl; exact absurd c11 (by decide))]
theorem mX8_errorPosition {L : Nat} {S : q_Ls} {X : q_Lx} {P : Int32 → q_H → Option Nat → Prop} (hL : isLx h L S X) (hk : P (ls_e S) h z) : QMi V iX8_errorPosition [.ref L] h z P Kx := by
  refine eX8_errorPosition ?_
  refine wX8_errorPosition_0 ?_
  refine wX8_errorPosition_1 hL.c ?_
  refine wX8_errorPosition_4  ?_
  exact hk
end CX8a

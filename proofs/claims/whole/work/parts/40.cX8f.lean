/-! SalaryCapLedger: what changes it -/
section CX8f
variable {V : q_En} {h : q_H} {z : Option Nat} {Kx : q_KX}
section
variable {L : Nat} {S : q_Ls} {X : q_Lx} {h' : q_H}
def ls_sB (S : q_Ls) (B : q_Bk) : q_Ls := (ls_n S, ls_f S, ls_e S, ls_l S, ls_T S, B, ls_H S)
def ls_sH (S : q_Ls) (H : q_Hs) : q_Ls := (ls_n S, ls_f S, ls_e S, ls_l S, ls_T S, ls_B S, H)
def ls_sN (S : q_Ls) (n : Nat) : q_Ls := (n, ls_f S, ls_e S, ls_l S, ls_T S, ls_B S, ls_H S)
theorem isLx.sB {B : q_Bk} (hL : isLx h L S X) (hB : isB h' (lx_b X) B) (ho : q_out (lx_b X) 60 h h') : isLx h' L (ls_sB S B) X ∧ q_out L 741 h h' := by
  obtain ⟨k, c, y, r, ⟨d, hd⟩, H, R, E, -, U, C⟩ := hL
  have k2 := k
  unfold lx_ok at k2
  exact ⟨⟨k, by rw [ho _ (by omega)]; exact c, y.o ho (by omega), by rw [ho _ (by omega)]; exact r, ⟨d, by rw [ho _ (by omega)]; exact hd⟩, H.o ho (by omega), R.o ho (by omega), E.o ho (by omega), hB, U.o ho (by omega), C.o ho (by omega)⟩, ho.in (by omega) (by omega)⟩
theorem isLx.sH {H : q_Hs} (hL : isLx h L S X) (hH : isHs h' (L + 5) H) (ho : q_out (L + 5) 602 h h') : isLx h' L (ls_sH S H) X ∧ q_out L 741 h h' := by
  obtain ⟨k, c, y, r, ⟨d, hd⟩, -, R, E, B, U, C⟩ := hL
  have k2 := k
  unfold lx_ok at k2
  exact ⟨⟨k, by rw [ho _ (by omega)]; exact c, y.o ho (by omega), by rw [ho _ (by omega)]; exact r, ⟨d, by rw [ho _ (by omega)]; exact hd⟩, hH, R.o ho (by omega), E.o ho (by omega), B.o ho (by omega), U.o ho (by omega), C.o ho (by omega)⟩, ho.in (by omega) (by omega)⟩
theorem isLx.sR {R : q_Rl} (hL : isLx h L S X) (hR : isR h' (L + 607) R) (ho : q_out (L + 607) 4 h h') : isLx h' L S (X.1, X.2.1, R, X.2.2.2) ∧ q_out L 741 h h' := by
  obtain ⟨k, c, y, r, ⟨d, hd⟩, H, -, E, B, U, C⟩ := hL
  have k2 := k
  unfold lx_ok at k2
  exact ⟨⟨k, by rw [ho _ (by omega)]; exact c, y.o ho (by omega), by rw [ho _ (by omega)]; exact r, ⟨d, by rw [ho _ (by omega)]; exact hd⟩, H.o ho (by omega), hR, E.o ho (by omega), B.o ho (by omega), U.o ho (by omega), C.o ho (by omega)⟩, ho.in (by omega) (by omega)⟩
theorem isLx.sN (hL : isLx h L S X) (n : Nat) : isLx (q_up h L (ledE L n (ls_e S) (ls_l S) (lx_t X) (lx_b X) (lx_u X) (lx_c X))) L (ls_sN S n) X ∧ q_out L 741 h (q_up h L (ledE L n (ls_e S) (ls_l S) (lx_t X) (lx_b X) (lx_u X) (lx_c X))) := by
  have ho : q_out L 1 h (q_up h L (ledE L n (ls_e S) (ls_l S) (lx_t X) (lx_b X) (lx_u X) (lx_c X))) := q_out.up (by omega) (by omega)
  obtain ⟨k, c, y, r, ⟨d, hd⟩, H, R, E, B, U, C⟩ := hL
  have k2 := k
  unfold lx_ok at k2
  exact ⟨⟨k, q_up_s, y.o ho (by omega), by rw [ho _ (by omega)]; exact r, ⟨d, by rw [ho _ (by omega)]; exact hd⟩, H.o ho (by omega), R.o ho (by omega), E.o ho (by omega), B.o ho (by omega), U.o ho (by omega), C.o ho (by omega)⟩, ho.in (by omega) (by omega)⟩
theorem okL.rem {B : q_Bk} (hS : okL S) : okL (ls_sH S (hs_rem (ls_H S) B)) := ⟨hS.1, hS.2.1, hS.2.2.1, hS.2.2.2.1, Nat.mod_lt _ (by decide), Nat.min_le_right _ _⟩
/-- the books are put into the history -/
theorem mX8_rem {P : q_H → Option Nat → Prop} (hL : isLx h L S X) (hS : okL S) (hk : ∀ h', isLx h' L (ls_sH S (hs_rem (ls_H S) (ls_B S))) X → q_out L 741 h h' → P h' z) : QMv V iX2_remember [.ref (L + 5), .ref (lx_b X)] h z P Kx := by
  have k2 := hL.k
  unfold lx_ok at k2
  exact mX2_remember hL.H hS.2.2.2.2.1 hS.2.2.2.2.2 (by omega) hL.B fun h2 hH2 ho2 => hk h2 (hL.sH hH2 ho2).1 (hL.sH hH2 ho2).2
end
theorem mX8_truncate {L : Nat} {S : q_Ls} {X : q_Lx} {x : Int32} {P : Int32 → q_H → Option Nat → Prop} (hL : isLx h L S X) (hS : okL S) (hk : ∀ n, n ≤ ls_n S → x = nI n → rg x 0 (nI (ls_n S)) = true → ∀ h', isL h' L (ls_sN S n) → q_out L 741 h h' → P (nI n) h' z) (hx : rg x 0 (nI (ls_n S)) = false → Kx E_ar h) : QMi V iX8_truncate [.ref L, .int x] h z P Kx := by
  refine eX8_truncate ?_
  refine wX8_truncate_0 ?_
  refine wX8_truncate_1 ?_
  refine wX8_truncate_2 ?_
  refine wX8_truncate_3 hL.c ?_
  refine wX8_truncate_6 (mX8_requireRange (fun g => ?_) hx)
  refine wX8_truncate_9 ?_
  refine wX8_truncate_10 ?_
  refine wX8_truncate_11 hL.c ?_
  refine wX8_truncate_14 ?_
  refine wX8_truncate_15u ?_
  refine wX8_truncate_18  ?_
  obtain ⟨n, hn, rfl⟩ : ∃ n, n ≤ ls_n S ∧ x = nI n := by
    have hg := of_decide_eq_true g
    obtain ⟨n, hn, e⟩ := q_of (N := nI (ls_n S + 1)) (n := ls_n S + 1) rfl (by have := hS.1; omega) hg.1 (fun q => absurd (Int32.le_trans q hg.2) (nI_ge (by omega) (by have := hS.1; omega)))
    exact ⟨n, by omega, e⟩
  exact hk n hn rfl g _ ⟨_, (hL.sN n).1⟩ (hL.sN n).2
theorem mX8_fewestReleases {L : Nat} {S : q_Ls} {X : q_Lx} {t : Int32} {P : Int32 → q_H → Option Nat → Prop} (hL : isLx h L S X) (hS : okL S) (hk : ls_l S = true → gT S t = true → ∀ j, j < 4 → t = nI j → ∀ h', isL h' L S → q_out L 741 h h' → P (rl_fw (rl_con X.2.2.1 (ls_B S) (nI j) 24) (-l_room S j)) h' z) (h1 : ls_l S = false → Kx E_st h) (h2 : ls_l S = true → gT S t = false → Kx E_ar h) : QMi V iX8_fewestReleases [.ref L, .int t] h z P Kx := by
  have k2 := hL.k
  unfold lx_ok at k2
  refine eX8_fewestReleases ?_
  refine wX8_fewestReleases_0 ?_
  refine wX8_fewestReleases_1 hL.c (mX8_requireLeague hL (fun hl => ?_) h1)
  refine wX8_fewestReleases_4 ?_
  refine wX8_fewestReleases_5 ?_
  refine wX8_fewestReleases_6 hL.c (mX8_requireTeam hL (fun g1 => ?_) (h2 hl))
  obtain ⟨j, hj, rfl⟩ := gT_of hS g1
  refine wX8_fewestReleases_9 ?_
  refine wX8_fewestReleases_10 hL.c ?_
  refine wX8_fewestReleases_13 ?_
  refine wX8_fewestReleases_14 hL.c ?_
  refine wX8_fewestReleases_17 ?_
  refine wX8_fewestReleases_18 hL.R.1 (mX5_consider hL.R hL.B (by omega) fun h3 hR3 ho3 => ?_)
  obtain ⟨hL2, ho2⟩ := hL.sR hR3 ho3
  replace hL := hL2
  refine wX8_fewestReleases_21 ?_
  refine wX8_fewestReleases_22 hL.c ?_
  refine wX8_fewestReleases_25 ?_
  refine wX8_fewestReleases_26 ?_
  refine wX8_fewestReleases_27 hL.c (mX8_roomOf hL hj ?_)
  refine wX8_fewestReleases_30 ?_
  refine wX8_fewestReleases_31 hL.R.1 (mX5_fewest hL.R (rl_con_le 24) ?_)
  refine wX8_fewestReleases_34  ?_
  exact hk hl g1 j hj rfl _ ⟨_, hL⟩ ho2
theorem mX8_releaseSet {L : Nat} {S : q_Ls} {X : q_Lx} {t : Int32} {P : Int32 → q_H → Option Nat → Prop} (hL : isLx h L S X) (hS : okL S) (hk : ls_l S = true → gT S t = true → ∀ j, j < 4 → t = nI j → ∀ h', isL h' L S → q_out L 741 h h' → P (rl_cs (rl_con X.2.2.1 (ls_B S) (nI j) 24) (-l_room S j)) h' z) (h1 : ls_l S = false → Kx E_st h) (h2 : ls_l S = true → gT S t = false → Kx E_ar h) : QMi V iX8_releaseSet [.ref L, .int t] h z P Kx := by
  have k2 := hL.k
  unfold lx_ok at k2
  refine eX8_releaseSet ?_
  refine wX8_releaseSet_0 ?_
  refine wX8_releaseSet_1 hL.c (mX8_requireLeague hL (fun hl => ?_) h1)
  refine wX8_releaseSet_4 ?_
  refine wX8_releaseSet_5 ?_
  refine wX8_releaseSet_6 hL.c (mX8_requireTeam hL (fun g1 => ?_) (h2 hl))
  obtain ⟨j, hj, rfl⟩ := gT_of hS g1
  refine wX8_releaseSet_9 ?_
  refine wX8_releaseSet_10 hL.c ?_
  refine wX8_releaseSet_13 ?_
  refine wX8_releaseSet_14 hL.c ?_
  refine wX8_releaseSet_17 ?_
  refine wX8_releaseSet_18 hL.R.1 (mX5_consider hL.R hL.B (by omega) fun h3 hR3 ho3 => ?_)
  obtain ⟨hL2, ho2⟩ := hL.sR hR3 ho3
  replace hL := hL2
  refine wX8_releaseSet_21 ?_
  refine wX8_releaseSet_22 hL.c ?_
  refine wX8_releaseSet_25 ?_
  refine wX8_releaseSet_26 ?_
  refine wX8_releaseSet_27 hL.c (mX8_roomOf hL hj ?_)
  refine wX8_releaseSet_30 ?_
  refine wX8_releaseSet_31 hL.R.1 (mX5_cheapestSet hL.R (rl_con_le 24) ?_)
  refine wX8_releaseSet_34  ?_
  exact hk hl g1 j hj rfl _ ⟨_, hL⟩ ho2
/-- both history and books have changed -/
theorem isLx.two {L : Nat} {S : q_Ls} {X : q_Lx} {h' : q_H} {B : q_Bk} {H : q_Hs} (hL : isLx h L S X) (hH : isHs h' (L + 5) H) (hB : isB h' (lx_b X) B) (ho : ∀ q, (q < L + 5 ∨ L + 5 + 602 ≤ q) → (q < lx_b X ∨ lx_b X + 60 ≤ q) → h' q = h q) : isLx h' L (ls_sB (ls_sH S H) B) X ∧ q_out L 741 h h' := by
  have k2 := hL.k
  unfold lx_ok at k2
  -- in two steps: a heap between
  have hm : ∃ h1 : q_H, q_out (L + 5) 602 h h1 ∧ q_out (lx_b X) 60 h1 h' ∧ ∀ q, (L + 5 ≤ q ∧ q < L + 5 + 602) → h1 q = h' q := by
    refine ⟨fun q => if L + 5 ≤ q ∧ q < L + 5 + 602 then h' q else h q, fun q hq => if_neg (by omega), fun q hq => ?_, fun q hq => if_pos hq⟩
    by_cases q1 : L + 5 ≤ q ∧ q < L + 5 + 602
    · show _ = ite _ _ _
      rw [if_pos q1]
    · show _ = ite _ _ _
      rw [if_neg q1]
      exact ho q (by omega) hq
  obtain ⟨h1, o1, o2, o3⟩ := hm
  have hH1 : isHs h1 (L + 5) H := by
    have o4 : q_out (lx_b X) 60 h' h1 := fun q hq => (o2 q hq).symm
    exact hH.o o4 (by omega)
  obtain ⟨l1, p1⟩ := hL.sH hH1 o1
  obtain ⟨l2, p2⟩ := l1.sB hB o2
  exact ⟨l2, p1.trans p2⟩
theorem mX8_undo {L : Nat} {S : q_Ls} {X : q_Lx} {P : Int32 → q_H → Option Nat → Prop} (hL : isLx h L S X) (hS : okL S) (hk0 : ls_l S = true → (ls_H S).2.2 = 0 → P (-2) h z) (hk : ls_l S = true → (ls_H S).2.2 ≠ 0 → ∀ h', isL h' L (ls_sB (ls_sH S (hs_res (ls_H S))) ((ls_H S).1 (hs_pre (ls_H S)))) → q_out L 741 h h' → P (nI ((ls_H S).2.2 - 1)) h' z) (h1 : ls_l S = false → Kx E_st h) : QMi V iX8_undo [.ref L] h z P Kx := by
  have k2 := hL.k
  unfold lx_ok at k2
  refine eX8_undo ?_
  refine wX8_undo_0 ?_
  refine wX8_undo_1 hL.c (mX8_requireLeague hL (fun hl => ?_) h1)
  refine wX8_undo_4 ?_
  refine wX8_undo_5 hL.c ?_
  refine wX8_undo_8 hL.H.1 ?_
  refine wX8_undo_11 (fun c11 => ?_) (fun c11 => ?_)
  · refine wX8_undo_17 ?_
    refine wX8_undo_18 hL.c ?_
    refine wX8_undo_21 ?_
    refine wX8_undo_22 hL.c ?_
    refine wX8_undo_25 hL.H.1 (mX2_restoreTo hL.H hS.2.2.2.2.1 hS.2.2.2.2.2 (by omega) hL.B (fun q => absurd q (nI_nz _ (by have := hS.2.2.2.2.2; omega) c11)) fun h3 q0 hH3 hB3 ho3 => ?_)
    obtain ⟨hL2, ho2⟩ := hL.two hH3 hB3 ho3
    replace hL := hL2
    refine wX8_undo_28 ?_
    refine wX8_undo_29 hL.c ?_
    refine wX8_undo_32 hL.H.1 ?_
    refine wX8_undo_35  ?_
    exact hk hl q0 _ ⟨_, hL⟩ ho2
  · refine wX8_undo_14 ?_
    refine wX8_undo_16  ?_
    exact hk0 hl (nI_z0 _ (by have := hS.2.2.2.2.2; omega) c11)
theorem mX8_makeOffer {L : Nat} {S : q_Ls} {X : q_Lx} {a b c d e : Int32} {P : Int32 → q_H → Option Nat → Prop} (hL : isLx h L S X) (hS : okL S) (hk : ls_l S = true → (rg a 1 99999 && rg b 0 20 && rg c 1 5 && rg d 0 99999 && rg e 0 c) = true → ∀ h', isL h' L (ls_sB (ls_sH S (hs_rem (ls_H S) (ls_B S))) (b_sO (ls_B S) (a, b, c, d, e))) → q_out L 741 h h' → P (d_sal (a, b, c, d, e) 0 + d_shr (a, b, c, d, e) 0) h' z) (h1 : ls_l S = false → Kx E_st h) (h2 : ls_l S = true → (rg a 1 99999 && rg b 0 20 && rg c 1 5 && rg d 0 99999 && rg e 0 c) = false → Kx E_ar h) : QMi V iX8_makeOffer [.ref L, .int a, .int b, .int c, .int d, .int e] h z P Kx := by
  have ho : q_out L 741 h h := q_out.refl
  refine eX8_makeOffer ?_
  refine wX8_makeOffer_0 ?_
  refine wX8_makeOffer_1 hL.c (mX8_requireLeague hL (fun hl => ?_) h1)
  refine wX8_makeOffer_4 ?_
  refine wX8_makeOffer_5 ?_
  refine wX8_makeOffer_6 ?_
  refine wX8_makeOffer_8 (mX8_requireRange (fun g1 => ?_) (fun g1 => h2 hl (by simp [g1])))
  refine wX8_makeOffer_11 ?_
  refine wX8_makeOffer_12 ?_
  refine wX8_makeOffer_13 ?_
  refine wX8_makeOffer_15 (mX8_requireRange (fun g2 => ?_) (fun g2 => h2 hl (by simp [g2])))
  refine wX8_makeOffer_18 ?_
  refine wX8_makeOffer_19 ?_
  refine wX8_makeOffer_20 ?_
  refine wX8_makeOffer_21 (mX8_requireRange (fun g3 => ?_) (fun g3 => h2 hl (by simp [g3])))
  refine wX8_makeOffer_24 ?_
  refine wX8_makeOffer_26 ?_
  refine wX8_makeOffer_27 ?_
  refine wX8_makeOffer_29 (mX8_requireRange (fun g4 => ?_) (fun g4 => h2 hl (by simp [g4])))
  refine wX8_makeOffer_32 ?_
  refine wX8_makeOffer_34 ?_
  refine wX8_makeOffer_35 ?_
  refine wX8_makeOffer_36 (mX8_requireRange (fun g5 => ?_) (fun g5 => h2 hl (by simp [g5])))
  refine wX8_makeOffer_39 ?_
  refine wX8_makeOffer_40 hL.c ?_
  refine wX8_makeOffer_43 ?_
  refine wX8_makeOffer_44 hL.c ?_
  refine wX8_makeOffer_47 hL.H.1 (mX8_rem hL hS fun h3 hL2 ho2 => ?_)
  replace ho := ho.trans ho2
  replace hL := hL2
  clear hL2 ho2
  refine wX8_makeOffer_50 ?_
  refine wX8_makeOffer_51 hL.c ?_
  refine wX8_makeOffer_54 hL.B.1 ?_
  refine wX8_makeOffer_57 ?_
  refine wX8_makeOffer_58 ?_
  refine wX8_makeOffer_59 ?_
  refine wX8_makeOffer_60 ?_
  refine wX8_makeOffer_62 ?_
  refine wX8_makeOffer_64 hL.B.2.2.2.1 (mX1_agree hL.B.2.2.2.1 ?_)
  obtain ⟨hL2, ho2⟩ := hL.sB (hL.B.sO (d := (a, b, c, d, e))) (q_out.up (by omega) (by omega))
  replace ho := ho.trans ho2
  replace hL := hL2
  clear hL2 ho2
  refine wX8_makeOffer_67 ?_
  refine wX8_makeOffer_68 hL.c ?_
  refine wX8_makeOffer_71 hL.B.1 ?_
  refine wX8_makeOffer_74 ?_
  refine wX8_makeOffer_75 hL.B.2.2.2.1 (mX1_salaryOf hL.B.2.2.2.1 ?_)
  refine wX8_makeOffer_78 ?_
  refine wX8_makeOffer_79 hL.c ?_
  refine wX8_makeOffer_82 hL.B.1 ?_
  refine wX8_makeOffer_85 ?_
  refine wX8_makeOffer_86 hL.B.2.2.2.1 (mX1_shareOf hL.B.2.2.2.1 ?_)
  refine wX8_makeOffer_89 ?_
  refine wX8_makeOffer_90  ?_
  exact hk hl (by simp [g1, g2, g3, g4, g5]) _ ⟨_, hL⟩ ho
theorem mX8_release {L : Nat} {S : q_Ls} {X : q_Lx} {p st : Int32} {P : Int32 → q_H → Option Nat → Prop} (hL : isLx h L S X) (hS : okL S) (htm : ∀ i, i < 24 → pl_has (b_p (ls_B S) i) = true → ∃ j, j < 4 ∧ p_t (b_p (ls_B S) i) = nI j) (hk0 : ls_l S = true → gP S p = true → ∀ i, i < 24 → p = nI i → pl_has (b_p (ls_B S) i) = false → P (-2) h z) (hk : ls_l S = true → gP S p = true → ∀ i j, i < 24 → j < 4 → p = nI i → pl_has (b_p (ls_B S) i) = true → p_t (b_p (ls_B S) i) = nI j → ∀ h', isL h' L (ls_sB (ls_sH S (hs_rem (ls_H S) (ls_B S))) (b_dis (ls_B S) i j st)) → q_out L 741 h h' → P (b_dsum (ls_B S) i st) h' z) (h1 : ls_l S = false → Kx E_st h) (h2 : ls_l S = true → gP S p = false → Kx E_ar h) : QMi V iX8_release [.ref L, .int p, .int st] h z P Kx := by
  have ho : q_out L 741 h h := q_out.refl
  refine eX8_release ?_
  refine wX8_release_0 ?_
  refine wX8_release_1 hL.c (mX8_requireLeague hL (fun hl => ?_) h1)
  refine wX8_release_4 ?_
  refine wX8_release_5 ?_
  refine wX8_release_6 hL.c (mX8_requirePlayer hL (fun g1 => ?_) (h2 hl))
  obtain ⟨i, hi, rfl⟩ := gP_of hS g1
  refine wX8_release_9 ?_
  refine wX8_release_10 hL.c ?_
  refine wX8_release_13 hL.B.1 ?_
  refine wX8_release_16 ?_
  refine wX8_release_17 (t := 4) rfl hL.B.2.1 rfl hi (by decide) (if_pos hi) ?_
  refine wX8_release_18 (hL.B.P hi).1 (mX3_hasContract (hL.B.P hi) ?_)
  refine wX8_release_21 (fun c21 => ?_) (fun c21 => ?_)
  · refine wX8_release_27 ?_
    refine wX8_release_28 hL.c ?_
    refine wX8_release_31 ?_
    refine wX8_release_32 hL.c ?_
    refine wX8_release_35 hL.H.1 (mX8_rem hL hS fun h3 hL2 ho2 => ?_)
    replace ho := ho.trans ho2
    replace hL := hL2
    clear hL2 ho2
    obtain ⟨j, hj, ht⟩ := htm i hi (q_b1 c21)
    refine wX8_release_38 ?_
    refine wX8_release_39 hL.c ?_
    refine wX8_release_42 ?_
    refine wX8_release_43 ?_
    refine wX8_release_44 hL.B.1 (mX0_dismiss hL.B hi (q_b1 c21) hj ht fun h3 hB3 ho3 => ?_)
    obtain ⟨hL2, ho2⟩ := hL.sB hB3 ho3
    replace ho := ho.trans ho2
    replace hL := hL2
    clear hL2 ho2
    refine wX8_release_47  ?_
    exact hk hl g1 i j hi hj rfl (q_b1 c21) ht _ ⟨_, hL⟩ ho
  · refine wX8_release_24 ?_
    refine wX8_release_26  ?_
    exact hk0 hl g1 i hi rfl (q_b0 c21)
def l_mv (B : q_Bk) (j m : Nat) (s v : Int32) : q_Bk := b_mv (b_mv B s j (nI m) 24) v m (nI j) 24
theorem mX8_trade {L : Nat} {S : q_Ls} {X : q_Lx} {t s u v : Int32} {P : Int32 → q_H → Option Nat → Prop} (hL : isLx h L S X) (hS : okL S) (hk0 : ls_l S = true → gTr S t s u v = true → ∀ j m, j < 4 → m < 4 → t = nI j → u = nI m → ¬ l_te S j s m v = 0 → P (l_te S j s m v) h z) (hk : ls_l S = true → gTr S t s u v = true → ∀ j m, j < 4 → m < 4 → t = nI j → u = nI m → l_te S j s m v = 0 → ∀ h', isL h' L (ls_sB (ls_sH S (hs_rem (ls_H S) (ls_B S))) (l_mv (ls_B S) j m s v)) → q_out L 741 h h' → P (b_ch (l_mv (ls_B S) j m s v) j (b_w (l_mv (ls_B S) j m s v)) + b_ch (l_mv (ls_B S) j m s v) m (b_w (l_mv (ls_B S) j m s v))) h' z) (h1 : ls_l S = false → Kx E_st h) (h2 : ls_l S = true → gTr S t s u v = false → Kx E_ar h) : QMi V iX8_trade [.ref L, .int t, .int s, .int u, .int v] h z P Kx := by
  have ho : q_out L 741 h h := q_out.refl
  refine eX8_trade ?_
  refine wX8_trade_0 ?_
  refine wX8_trade_1 hL.c (mX8_requireLeague hL (fun hl => ?_) h1)
  refine wX8_trade_4 ?_
  refine wX8_trade_5 ?_
  refine wX8_trade_6 ?_
  refine wX8_trade_7 ?_
  refine wX8_trade_8 ?_
  refine wX8_trade_10 hL.c (mX8_requireTrade hL (fun g1 => ?_) (h2 hl))
  obtain ⟨⟨j, hj, rfl⟩, m, hm, rfl⟩ := gTr_of hS g1
  refine wX8_trade_13 ?_
  refine wX8_trade_14 ?_
  refine wX8_trade_15 ?_
  refine wX8_trade_16 ?_
  refine wX8_trade_17 ?_
  refine wX8_trade_19 hL.c (mX8_tradeError hL hj hm ?_)
  refine wX8_trade_22 ?_
  refine wX8_trade_24 ?_
  refine wX8_trade_26 (fun c26 => ?_) (fun c26 => ?_)
  · refine wX8_trade_32 ?_
    refine wX8_trade_33 hL.c ?_
    refine wX8_trade_36 ?_
    refine wX8_trade_37 hL.c ?_
    refine wX8_trade_40 hL.H.1 (mX8_rem hL hS fun h3 hL2 ho2 => ?_)
    replace ho := ho.trans ho2
    replace hL := hL2
    clear hL2 ho2
    refine wX8_trade_43 ?_
    refine wX8_trade_44 hL.c ?_
    refine wX8_trade_47 ?_
    refine wX8_trade_48 ?_
    refine wX8_trade_49 ?_
    refine wX8_trade_50 hL.B.1 (mX0_move hL.B hj fun h3 hB3 ho3 => ?_)
    obtain ⟨hL2, ho2⟩ := hL.sB hB3 ho3
    replace ho := ho.trans ho2
    replace hL := hL2
    clear hL2 ho2
    refine wX8_trade_53 ?_
    refine wX8_trade_54 hL.c ?_
    refine wX8_trade_57 ?_
    refine wX8_trade_59 ?_
    refine wX8_trade_60 ?_
    refine wX8_trade_61 hL.B.1 (mX0_move hL.B hm fun h3 hB3 ho3 => ?_)
    obtain ⟨hL2, ho2⟩ := hL.sB hB3 ho3
    replace ho := ho.trans ho2
    replace hL := hL2
    clear hL2 ho2
    refine wX8_trade_64 ?_
    refine wX8_trade_65 hL.c ?_
    refine wX8_trade_68 ?_
    refine wX8_trade_69 hL.B.1 (mX0_chargeNow hL.B hj ?_)
    refine wX8_trade_72 ?_
    refine wX8_trade_73 hL.c ?_
    refine wX8_trade_76 ?_
    refine wX8_trade_77 hL.B.1 (mX0_chargeNow hL.B hm ?_)
    refine wX8_trade_80 ?_
    refine wX8_trade_81  ?_
    exact hk hl g1 j m hj hm rfl rfl c26 _ ⟨_, hL⟩ ho
  · refine wX8_trade_29 ?_
    refine wX8_trade_31  ?_
    exact hk0 hl g1 j m hj hm rfl rfl c26
end CX8f

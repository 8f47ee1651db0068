/-! SalaryCapLedger: swaps -/
section CX8e
variable {V : q_En} {h : q_H} {z : Option Nat} {Kx : q_KX}
def l_cn (S : q_Ls) (j : Nat) : Int32 := b_ch (ls_B S) j (b_w (ls_B S))
def l_si (S : q_Ls) (j m p : Nat) : Nat → Int32 → Int32
  | 0, c => c
  | k + 1, c => if b_plf (ls_B S) k (nI m) = true ∧ l_sw S (l_cn S j) (nI p) (l_cn S m) (nI k) = true then l_si S j m p k c + 1 else l_si S j m p k c
def l_so (S : q_Ls) (j m n : Nat) : Nat → Int32
  | 0 => 0
  | p + 1 => if b_plf (ls_B S) p (nI j) = true then l_si S j m p n (l_so S j m n p) else l_so S j m n p
def l_tx (S : q_Ls) (j m p k : Nat) : Int64 := l_tax S j (l_cn S j + b_cc (ls_B S) ((1 : Int32) <<< (nI p &&& 31)) ((1 : Int32) <<< (nI k &&& 31))) + l_tax S m (l_cn S m + b_cc (ls_B S) ((1 : Int32) <<< (nI k &&& 31)) ((1 : Int32) <<< (nI p &&& 31)))
def l_bi (S : q_Ls) (j m p : Nat) : Nat → Int32 × Int64 → Int32 × Int64
  | 0, x => x
  | k + 1, x => if b_plf (ls_B S) k (nI m) = true ∧ l_sw S (l_cn S j) (nI p) (l_cn S m) (nI k) = true then (if (l_bi S j m p k x).1 < 0 ∨ ¬ (l_bi S j m p k x).2 ≤ l_tx S j m p k then (32 * nI p + nI k, l_tx S j m p k) else l_bi S j m p k x) else l_bi S j m p k x
def l_bo (S : q_Ls) (j m n : Nat) : Nat → Int32 × Int64
  | 0 => (-2, 0)
  | p + 1 => if b_plf (ls_B S) p (nI j) = true then l_bi S j m p n (l_bo S j m n p) else l_bo S j m n p
theorem mX8_swapCount {L : Nat} {S : q_Ls} {X : q_Lx} {t u : Int32} {P : Int32 → q_H → Option Nat → Prop} (hL : isLx h L S X) (hS : okL S) (hk : ls_l S = true → g2T S t u = true → ∀ j m n, j < 4 → m < 4 → t = nI j → u = nI m → n ≤ 24 → te_p (ls_T S) = nI n → P (l_so S j m n n) h z) (h1 : ls_l S = false → Kx E_st h) (h2 : ls_l S = true → g2T S t u = false → Kx E_ar h) : QMi V iX8_swapCount [.ref L, .int t, .int u] h z P Kx := by
  refine eX8_swapCount ?_
  refine wX8_swapCount_0 ?_
  refine wX8_swapCount_1 hL.c (mX8_requireLeague hL (fun hl => ?_) h1)
  refine wX8_swapCount_4 ?_
  refine wX8_swapCount_5 ?_
  refine wX8_swapCount_6 ?_
  refine wX8_swapCount_7 hL.c (mX8_requireTwoTeams hL (fun g1 => ?_) (h2 hl))
  obtain ⟨⟨j, hj, rfl⟩, m, hm, rfl⟩ := g2T_of hS g1
  obtain ⟨n, hn24, hn⟩ := hS.2.2.2.1
  refine wX8_swapCount_10 ?_
  refine wX8_swapCount_11 hL.c ?_
  refine wX8_swapCount_14 ?_
  refine wX8_swapCount_15 hL.B.1 (mX0_chargeNow hL.B hj ?_)
  refine wX8_swapCount_18 ?_
  refine wX8_swapCount_19 ?_
  refine wX8_swapCount_20 hL.c ?_
  refine wX8_swapCount_23 ?_
  refine wX8_swapCount_24 hL.B.1 (mX0_chargeNow hL.B hm ?_)
  refine wX8_swapCount_27 ?_
  refine wX8_swapCount_29 ?_
  refine wX8_swapCount_30 ?_
  refine wX8_swapCount_32 ?_
  refine wX8_swapCount_33 ?_
  refine q_for (P := fun p => QW V iX8_swapCount 35 [some (.ref L), some (.int (nI j)), some (.int (nI m)), some (.int (l_cn S j)), some (.int (l_cn S m)), some (.int (l_so S j m n p)), some (.int (nI p)), none] [] h z 0 0 (q_Ki P) Kx) n ?_ (fun p hpn ih => ?_)
  · refine wX8_swapCount_35 ?_
    refine wX8_swapCount_37 ?_
    refine wX8_swapCount_38 hL.c ?_
    refine wX8_swapCount_41 hL.E.1 ?_
    refine wX8_swapCount_44 (fun c44 => ?_) (fun c44 => absurd (by rw [hn]; exact nI_le (Nat.le_refl _) (by omega)) c44)
    refine wX8_swapCount_117 ?_
    refine wX8_swapCount_119  ?_
    exact hk hl g1 j m n hj hm rfl rfl hn24 hn
  · refine wX8_swapCount_35 ?_
    refine wX8_swapCount_37 ?_
    refine wX8_swapCount_38 hL.c ?_
    refine wX8_swapCount_41 hL.E.1 ?_
    refine wX8_swapCount_44 (fun c44 => absurd c44 (by rw [hn]; exact nI_ge hpn (by omega))) (fun c44 => ?_)
    refine wX8_swapCount_47 ?_
    refine wX8_swapCount_48 ?_
    rcases Bool.eq_false_or_eq_true (b_plf (ls_B S) p (nI j)) with hpl | hpl
    · refine q_for (P := fun k => QW V iX8_swapCount 50 [some (.ref L), some (.int (nI j)), some (.int (nI m)), some (.int (l_cn S j)), some (.int (l_cn S m)), some (.int (l_si S j m p k (l_so S j m n p))), some (.int (nI p)), some (.int (nI k))] [] h z 0 0 (q_Ki P) Kx) n ?_ (fun k hkn ih2 => ?_)
      · refine wX8_swapCount_50 ?_
        refine wX8_swapCount_51 hL.c ?_
        refine wX8_swapCount_54 ?_
        refine wX8_swapCount_56 ?_
        refine wX8_swapCount_57 hL.B.1 (mX0_playsFor hL.B (by omega) ?_)
        refine wX8_swapCount_60 (fun c60 => absurd c60 (by rw [hpl]; decide)) (fun c60 => ?_)
        refine wX8_swapCount_63 ?_
        refine wX8_swapCount_65 ?_
        refine wX8_swapCount_66 hL.c ?_
        refine wX8_swapCount_69 hL.E.1 ?_
        refine wX8_swapCount_72 (fun c72 => ?_) (fun c72 => absurd (by rw [hn]; exact nI_le (Nat.le_refl _) (by omega)) c72)
        refine wX8_swapCount_111 ?_
        refine wX8_swapCount_114 ?_
        refine q_drp 7 (q_ls ?_ ih)
        rw [nI_1, l_so, if_pos hpl]
        rfl
      · refine wX8_swapCount_50 ?_
        refine wX8_swapCount_51 hL.c ?_
        refine wX8_swapCount_54 ?_
        refine wX8_swapCount_56 ?_
        refine wX8_swapCount_57 hL.B.1 (mX0_playsFor hL.B (k := p) (by omega) ?_)
        refine wX8_swapCount_60 (fun c60 => absurd c60 (by rw [hpl]; decide)) (fun c60 => ?_)
        refine wX8_swapCount_63 ?_
        refine wX8_swapCount_65 ?_
        refine wX8_swapCount_66 hL.c ?_
        refine wX8_swapCount_69 hL.E.1 ?_
        refine wX8_swapCount_72 (fun c72 => absurd c72 (by rw [hn]; exact nI_ge hkn (by omega))) (fun c72 => ?_)
        refine wX8_swapCount_75 ?_
        refine wX8_swapCount_76 hL.c ?_
        refine wX8_swapCount_79 ?_
        refine wX8_swapCount_81 ?_
        refine wX8_swapCount_82 hL.B.1 (mX0_playsFor hL.B (k := k) (by omega) ?_)
        refine wX8_swapCount_85 (fun c85 => ?_) (fun c85 => ?_)
        · refine wX8_swapCount_105 ?_
          refine wX8_swapCount_108 ?_
          refine q_ls ?_ ih2
          rw [nI_1]
          first
            | (have q9 := q_b0 c85; rw [l_si, if_neg (fun q => by rw [q9] at q; cases q.1)])
            | (have q9 := q_b1 c99; rw [l_si, if_pos ⟨q_b1 c85, q9⟩])
            | (have q9 := q_b0 c99; rw [l_si, if_neg (fun q => by rw [q9] at q; cases q.2)])
        · refine wX8_swapCount_88 ?_
          refine wX8_swapCount_89 ?_
          refine wX8_swapCount_90 ?_
          refine wX8_swapCount_92 ?_
          refine wX8_swapCount_94 ?_
          refine wX8_swapCount_96 hL.c (mX8_swapMatches hL ?_)
          refine wX8_swapCount_99 (fun c99 => ?_) (fun c99 => ?_)
          · refine wX8_swapCount_105 ?_
            refine wX8_swapCount_108 ?_
            refine q_ls ?_ ih2
            rw [nI_1]
            first
              | (have q9 := q_b0 c85; rw [l_si, if_neg (fun q => by rw [q9] at q; cases q.1)])
              | (have q9 := q_b1 c99; rw [l_si, if_pos ⟨q_b1 c85, q9⟩])
              | (have q9 := q_b0 c99; rw [l_si, if_neg (fun q => by rw [q9] at q; cases q.2)])
          · refine wX8_swapCount_102 ?_
            refine wX8_swapCount_105 ?_
            refine wX8_swapCount_108 ?_
            refine q_ls ?_ ih2
            rw [nI_1]
            first
              | (have q9 := q_b0 c85; rw [l_si, if_neg (fun q => by rw [q9] at q; cases q.1)])
              | (have q9 := q_b1 c99; rw [l_si, if_pos ⟨q_b1 c85, q9⟩])
              | (have q9 := q_b0 c99; rw [l_si, if_neg (fun q => by rw [q9] at q; cases q.2)])
    · refine wX8_swapCount_50 ?_
      refine wX8_swapCount_51 hL.c ?_
      refine wX8_swapCount_54 ?_
      refine wX8_swapCount_56 ?_
      refine wX8_swapCount_57 hL.B.1 (mX0_playsFor hL.B (k := p) (by omega) ?_)
      refine wX8_swapCount_60 (fun c60 => ?_) (fun c60 => absurd (by rw [hpl]; rfl) c60)
      refine wX8_swapCount_111 ?_
      refine wX8_swapCount_114 ?_
      refine q_drp 7 (q_ls ?_ ih)
      rw [nI_1, l_so, if_neg (by rw [hpl]; decide)]
      rfl
theorem mX8_bestSwap {L : Nat} {S : q_Ls} {X : q_Lx} {t u : Int32} {P : Int32 → q_H → Option Nat → Prop} (hL : isLx h L S X) (hS : okL S) (hk : ls_l S = true → g2T S t u = true → ∀ j m n, j < 4 → m < 4 → t = nI j → u = nI m → n ≤ 24 → te_p (ls_T S) = nI n → P ((l_bo S j m n n).1) h z) (h1 : ls_l S = false → Kx E_st h) (h2 : ls_l S = true → g2T S t u = false → Kx E_ar h) : QMi V iX8_bestSwap [.ref L, .int t, .int u] h z P Kx := by
  refine eX8_bestSwap ?_
  refine wX8_bestSwap_0 ?_
  refine wX8_bestSwap_1 hL.c (mX8_requireLeague hL (fun hl => ?_) h1)
  refine wX8_bestSwap_4 ?_
  refine wX8_bestSwap_5 ?_
  refine wX8_bestSwap_6 ?_
  refine wX8_bestSwap_7 hL.c (mX8_requireTwoTeams hL (fun g1 => ?_) (h2 hl))
  obtain ⟨⟨j, hj, rfl⟩, m, hm, rfl⟩ := g2T_of hS g1
  obtain ⟨n, hn24, hn⟩ := hS.2.2.2.1
  refine wX8_bestSwap_10 ?_
  refine wX8_bestSwap_11 hL.c ?_
  refine wX8_bestSwap_14 ?_
  refine wX8_bestSwap_15 hL.B.1 (mX0_chargeNow hL.B hj ?_)
  refine wX8_bestSwap_18 ?_
  refine wX8_bestSwap_19 ?_
  refine wX8_bestSwap_20 hL.c ?_
  refine wX8_bestSwap_23 ?_
  refine wX8_bestSwap_24 hL.B.1 (mX0_chargeNow hL.B hm ?_)
  refine wX8_bestSwap_27 ?_
  refine wX8_bestSwap_29 ?_
  refine wX8_bestSwap_31 ?_
  refine wX8_bestSwap_33 ?_
  refine wX8_bestSwap_34 ?_
  refine wX8_bestSwap_36 ?_
  refine wX8_bestSwap_37 ?_
  refine q_for (P := fun p => QW V iX8_bestSwap 39 [some (.ref L), some (.int (nI j)), some (.int (nI m)), some (.int (l_cn S j)), some (.int (l_cn S m)), some (.int (l_bo S j m n p).1), some (.long (l_bo S j m n p).2), none, some (.int (nI p)), none, none, none] [] h z 0 0 (q_Ki P) Kx) n ?_ (fun p hpn ih => ?_)
  · refine wX8_bestSwap_39 ?_
    refine wX8_bestSwap_41 ?_
    refine wX8_bestSwap_42 hL.c ?_
    refine wX8_bestSwap_45 hL.E.1 ?_
    refine wX8_bestSwap_48 (fun c48 => ?_) (fun c48 => absurd (by rw [hn]; exact nI_le (Nat.le_refl _) (by omega)) c48)
    refine wX8_bestSwap_193 ?_
    refine wX8_bestSwap_195  ?_
    exact hk hl g1 j m n hj hm rfl rfl hn24 hn
  · refine wX8_bestSwap_39 ?_
    refine wX8_bestSwap_41 ?_
    refine wX8_bestSwap_42 hL.c ?_
    refine wX8_bestSwap_45 hL.E.1 ?_
    refine wX8_bestSwap_48 (fun c48 => absurd c48 (by rw [hn]; exact nI_ge hpn (by omega))) (fun c48 => ?_)
    refine wX8_bestSwap_51 ?_
    refine wX8_bestSwap_52 ?_
    rcases Bool.eq_false_or_eq_true (b_plf (ls_B S) p (nI j)) with hpl | hpl
    · refine q_for (P := fun k => QW V iX8_bestSwap 54 [some (.ref L), some (.int (nI j)), some (.int (nI m)), some (.int (l_cn S j)), some (.int (l_cn S m)), some (.int (l_bi S j m p k (l_bo S j m n p)).1), some (.long (l_bi S j m p k (l_bo S j m n p)).2), none, some (.int (nI p)), some (.int (nI k)), none, none] [] h z 0 0 (q_Ki P) Kx) n ?_ (fun k hkn ih2 => ?_)
      · refine wX8_bestSwap_54 ?_
        refine wX8_bestSwap_55 hL.c ?_
        refine wX8_bestSwap_58 ?_
        refine wX8_bestSwap_60 ?_
        refine wX8_bestSwap_61 hL.B.1 (mX0_playsFor hL.B (k := p) (by omega) ?_)
        refine wX8_bestSwap_64 (fun c64 => absurd c64 (by rw [hpl]; decide)) (fun c64 => ?_)
        refine wX8_bestSwap_67 ?_
        refine wX8_bestSwap_69 ?_
        refine wX8_bestSwap_70 hL.c ?_
        refine wX8_bestSwap_73 hL.E.1 ?_
        refine wX8_bestSwap_76 (fun c76 => ?_) (fun c76 => absurd (by rw [hn]; exact nI_le (Nat.le_refl _) (by omega)) c76)
        refine wX8_bestSwap_187 ?_
        refine wX8_bestSwap_190 ?_
        refine q_drp 9 (q_ls ?_ ih)
        rw [nI_1, l_bo, if_pos hpl]
        rfl
      · refine wX8_bestSwap_54 ?_
        refine wX8_bestSwap_55 hL.c ?_
        refine wX8_bestSwap_58 ?_
        refine wX8_bestSwap_60 ?_
        refine wX8_bestSwap_61 hL.B.1 (mX0_playsFor hL.B (k := p) (by omega) ?_)
        refine wX8_bestSwap_64 (fun c64 => absurd c64 (by rw [hpl]; decide)) (fun c64 => ?_)
        refine wX8_bestSwap_67 ?_
        refine wX8_bestSwap_69 ?_
        refine wX8_bestSwap_70 hL.c ?_
        refine wX8_bestSwap_73 hL.E.1 ?_
        refine wX8_bestSwap_76 (fun c76 => absurd c76 (by rw [hn]; exact nI_ge hkn (by omega))) (fun c76 => ?_)
        refine wX8_bestSwap_79 ?_
        refine wX8_bestSwap_80 hL.c ?_
        refine wX8_bestSwap_83 ?_
        refine wX8_bestSwap_85 ?_
        refine wX8_bestSwap_86 hL.B.1 (mX0_playsFor hL.B (k := k) (by omega) ?_)
        refine wX8_bestSwap_89 (fun c89 => ?_) (fun c89 => ?_)
        · refine wX8_bestSwap_181 ?_
          refine wX8_bestSwap_184 ?_
          refine q_drp 10 (q_ls ?_ ih2)
          rw [nI_1]
          first
            | (have q9 := q_b0 c89; rw [l_bi, if_neg (fun q => by rw [q9] at q; cases q.1)]; rfl)
            | (have q9 := q_b0 c103; rw [l_bi, if_neg (fun q => by rw [q9] at q; cases q.2)]; rfl)
            | (have q9 : ¬ (l_bi S j m p k (l_bo S j m n p)).2 ≤ l_tx S j m p k := c163; rw [l_bi, if_pos ⟨q_b1 c89, q_b1 c103⟩, if_pos (Or.inr q9)]; rfl)
            | (have q9 : (l_bi S j m p k (l_bo S j m n p)).2 ≤ l_tx S j m p k := c163; rw [l_bi, if_pos ⟨q_b1 c89, q_b1 c103⟩, if_neg (fun q => q.elim c156 (fun q => q q9))]; rfl)
            | (have q9 := c156; rw [l_bi, if_pos ⟨q_b1 c89, q_b1 c103⟩, if_pos (Or.inl q9)]; rfl)
        · refine wX8_bestSwap_92 ?_
          refine wX8_bestSwap_93 ?_
          refine wX8_bestSwap_94 ?_
          refine wX8_bestSwap_96 ?_
          refine wX8_bestSwap_98 ?_
          refine wX8_bestSwap_100 hL.c (mX8_swapMatches hL ?_)
          refine wX8_bestSwap_103 (fun c103 => ?_) (fun c103 => ?_)
          · refine wX8_bestSwap_181 ?_
            refine wX8_bestSwap_184 ?_
            refine q_drp 10 (q_ls ?_ ih2)
            rw [nI_1]
            first
              | (have q9 := q_b0 c89; rw [l_bi, if_neg (fun q => by rw [q9] at q; cases q.1)]; rfl)
              | (have q9 := q_b0 c103; rw [l_bi, if_neg (fun q => by rw [q9] at q; cases q.2)]; rfl)
              | (have q9 : ¬ (l_bi S j m p k (l_bo S j m n p)).2 ≤ l_tx S j m p k := c163; rw [l_bi, if_pos ⟨q_b1 c89, q_b1 c103⟩, if_pos (Or.inr q9)]; rfl)
              | (have q9 : (l_bi S j m p k (l_bo S j m n p)).2 ≤ l_tx S j m p k := c163; rw [l_bi, if_pos ⟨q_b1 c89, q_b1 c103⟩, if_neg (fun q => q.elim c156 (fun q => q q9))]; rfl)
              | (have q9 := c156; rw [l_bi, if_pos ⟨q_b1 c89, q_b1 c103⟩, if_pos (Or.inl q9)]; rfl)
          · refine wX8_bestSwap_106 ?_
            refine wX8_bestSwap_107 ?_
            refine wX8_bestSwap_108 ?_
            refine wX8_bestSwap_109 ?_
            refine wX8_bestSwap_110 hL.c ?_
            refine wX8_bestSwap_113 ?_
            refine wX8_bestSwap_114 ?_
            refine wX8_bestSwap_116 ?_
            refine wX8_bestSwap_117 ?_
            refine wX8_bestSwap_118 ?_
            refine wX8_bestSwap_120 ?_
            refine wX8_bestSwap_121 hL.B.1 (mX0_chargeChange hL.B ?_)
            refine wX8_bestSwap_124 ?_
            refine wX8_bestSwap_125 hL.c (mX8_taxOn hL hS hj ?_)
            refine wX8_bestSwap_128 ?_
            refine wX8_bestSwap_129 ?_
            refine wX8_bestSwap_130 ?_
            refine wX8_bestSwap_132 ?_
            refine wX8_bestSwap_133 hL.c ?_
            refine wX8_bestSwap_136 ?_
            refine wX8_bestSwap_137 ?_
            refine wX8_bestSwap_139 ?_
            refine wX8_bestSwap_140 ?_
            refine wX8_bestSwap_141 ?_
            refine wX8_bestSwap_143 ?_
            refine wX8_bestSwap_144 hL.B.1 (mX0_chargeChange hL.B ?_)
            refine wX8_bestSwap_147 ?_
            refine wX8_bestSwap_148 hL.c (mX8_taxOn hL hS hm ?_)
            refine wX8_bestSwap_151 ?_
            refine wX8_bestSwap_152 ?_
            refine wX8_bestSwap_154 ?_
            refine wX8_bestSwap_156 (fun c156 => ?_) (fun c156 => ?_)
            · refine wX8_bestSwap_167 ?_
              refine wX8_bestSwap_169 ?_
              refine wX8_bestSwap_171 ?_
              refine wX8_bestSwap_173 ?_
              refine wX8_bestSwap_175 ?_
              refine wX8_bestSwap_176 ?_
              refine wX8_bestSwap_178 ?_
              refine wX8_bestSwap_179 ?_
              refine wX8_bestSwap_181 ?_
              refine wX8_bestSwap_184 ?_
              refine q_drp 10 (q_ls ?_ ih2)
              rw [nI_1]
              first
                | (have q9 := q_b0 c89; rw [l_bi, if_neg (fun q => by rw [q9] at q; cases q.1)]; rfl)
                | (have q9 := q_b0 c103; rw [l_bi, if_neg (fun q => by rw [q9] at q; cases q.2)]; rfl)
                | (have q9 : ¬ (l_bi S j m p k (l_bo S j m n p)).2 ≤ l_tx S j m p k := c163; rw [l_bi, if_pos ⟨q_b1 c89, q_b1 c103⟩, if_pos (Or.inr q9)]; rfl)
                | (have q9 : (l_bi S j m p k (l_bo S j m n p)).2 ≤ l_tx S j m p k := c163; rw [l_bi, if_pos ⟨q_b1 c89, q_b1 c103⟩, if_neg (fun q => q.elim c156 (fun q => q q9))]; rfl)
                | (have q9 := c156; rw [l_bi, if_pos ⟨q_b1 c89, q_b1 c103⟩, if_pos (Or.inl q9)]; rfl)
            · refine wX8_bestSwap_159 ?_
              refine wX8_bestSwap_161 ?_
              refine wX8_bestSwap_163 (fun c163 => ?_) (fun c163 => ?_)
              · refine wX8_bestSwap_181 ?_
                refine wX8_bestSwap_184 ?_
                refine q_drp 10 (q_ls ?_ ih2)
                rw [nI_1]
                first
                  | (have q9 := q_b0 c89; rw [l_bi, if_neg (fun q => by rw [q9] at q; cases q.1)]; rfl)
                  | (have q9 := q_b0 c103; rw [l_bi, if_neg (fun q => by rw [q9] at q; cases q.2)]; rfl)
                  | (have q9 : ¬ (l_bi S j m p k (l_bo S j m n p)).2 ≤ l_tx S j m p k := c163; rw [l_bi, if_pos ⟨q_b1 c89, q_b1 c103⟩, if_pos (Or.inr q9)]; rfl)
                  | (have q9 : (l_bi S j m p k (l_bo S j m n p)).2 ≤ l_tx S j m p k := c163; rw [l_bi, if_pos ⟨q_b1 c89, q_b1 c103⟩, if_neg (fun q => q.elim c156 (fun q => q q9))]; rfl)
                  | (have q9 := c156; rw [l_bi, if_pos ⟨q_b1 c89, q_b1 c103⟩, if_pos (Or.inl q9)]; rfl)
              · refine wX8_bestSwap_167 ?_
                refine wX8_bestSwap_169 ?_
                refine wX8_bestSwap_171 ?_
                refine wX8_bestSwap_173 ?_
                refine wX8_bestSwap_175 ?_
                refine wX8_bestSwap_176 ?_
                refine wX8_bestSwap_178 ?_
                refine wX8_bestSwap_179 ?_
                refine wX8_bestSwap_181 ?_
                refine wX8_bestSwap_184 ?_
                refine q_drp 10 (q_ls ?_ ih2)
                rw [nI_1]
                first
                  | (have q9 := q_b0 c89; rw [l_bi, if_neg (fun q => by rw [q9] at q; cases q.1)]; rfl)
                  | (have q9 := q_b0 c103; rw [l_bi, if_neg (fun q => by rw [q9] at q; cases q.2)]; rfl)
                  | (have q9 : ¬ (l_bi S j m p k (l_bo S j m n p)).2 ≤ l_tx S j m p k := c163; rw [l_bi, if_pos ⟨q_b1 c89, q_b1 c103⟩, if_pos (Or.inr q9)]; rfl)
                  | (have q9 : (l_bi S j m p k (l_bo S j m n p)).2 ≤ l_tx S j m p k := c163; rw [l_bi, if_pos ⟨q_b1 c89, q_b1 c103⟩, if_neg (fun q => q.elim c156 (fun q => q q9))]; rfl)
                  | (have q9 := c156; rw [l_bi, if_pos ⟨q_b1 c89, q_b1 c103⟩, if_pos (Or.inl q9)]; rfl)
    · refine wX8_bestSwap_54 ?_
      refine wX8_bestSwap_55 hL.c ?_
      refine wX8_bestSwap_58 ?_
      refine wX8_bestSwap_60 ?_
      refine wX8_bestSwap_61 hL.B.1 (mX0_playsFor hL.B (k := p) (by omega) ?_)
      refine wX8_bestSwap_64 (fun c64 => ?_) (fun c64 => absurd (by rw [hpl]; rfl) c64)
      refine wX8_bestSwap_187 ?_
      refine wX8_bestSwap_190 ?_
      refine q_drp 9 (q_ls ?_ ih)
      rw [nI_1, l_bo, if_neg (by rw [hpl]; decide)]
      rfl
end CX8e

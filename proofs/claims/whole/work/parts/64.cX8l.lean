/-! SalaryCapLedger: ranks; SalaryCapLedgerModel: the constructor -/
section CX8l
variable {V : q_En} {h : q_H} {z : Option Nat} {Kx : q_KX}
abbrev E_ns : String := "java/util/NoSuchElementException"
theorem hatg_253 : ∀ w ∈ (q_atX RX8 253 E_ns 13 prog_29_method_4_code ["java/lang/RuntimeException", "java/lang/Exception"]).filter goodWord, w ∈ lw_tbl := by decide +kernel
theorem hatb_253 : ∀ w ∈ (q_atX RX8 253 E_ns 13 prog_29_method_4_code ["java/lang/RuntimeException", "java/lang/Exception"]).filter (fun w => !goodWord w), w ∈ q_dc := by decide +kernel
theorem hatX8_253 : ∀ w ∈ (q_atX RX8 253 E_ns 13 prog_29_method_4_code ["java/lang/RuntimeException", "java/lang/Exception"]), w ∈ q_big ∨ (∃ q ∈ q_decl, w = .declares q) ∨ ∃ q ∈ q_cast, w = .castable q.1 q.2 := fun w hw => by
  by_cases g : goodWord w = true
  · exact Or.inl (List.mem_filter.mpr ⟨hatg_253 w (List.mem_filter.mpr ⟨hw, g⟩), g⟩)
  · exact Or.inr (q_dc_in (hatb_253 w (List.mem_filter.mpr ⟨hw, by simpa using g⟩)))
theorem ns_0 : decode prog_29_method_4_code 0 = .ok (.aload_n 0, 1) := by decide +kernel
theorem ns_1 : decode prog_29_method_4_code 1 = .ok (.aload_n 1, 1) := by decide +kernel
theorem ns_2 : decode prog_29_method_4_code 2 = .ok (.invokespecial 13, 3) := by decide +kernel
theorem ns_5 : decode prog_29_method_4_code 5 = .ok (.return_, 1) := by decide +kernel
theorem wX8_teamRank_45 {a0 a1 a2 a3 : Option Value} {bc bs : Nat} {Kr : q_KR} (hk : Kx E_ns h) : QW V iX8_teamRank 45 [a0, a1, a2, a3] [] h z (bc + 1) (bs + 6) Kr Kx := q_throwNS (tx := "there are not so many teams") (k := 10) ns_0 ns_1 ns_2 ns_5 dX8_teamRank_45 dX8_teamRank_48 dX8_teamRank_49 dX8_teamRank_51 dX8_teamRank_54 rfl k4_224 k1_23 (by decide +kernel) (by decide +kernel) hatX8_253 (Nat.le_of_ble_eq_true rfl) (Nat.le_of_ble_eq_true rfl) hk
theorem wX8_playerRank_53 {a0 a1 a2 : Option Value} {bc bs : Nat} {Kr : q_KR} (hk : Kx E_ns h) : QW V iX8_playerRank 53 [a0, a1, a2] [] h z (bc + 1) (bs + 6) Kr Kx := q_throwNW (tx := "there are not so many players with a contract") (k := 11) ns_0 ns_1 ns_2 ns_5 dX8_playerRank_53 dX8_playerRank_56 dX8_playerRank_57 dX8_playerRank_60 dX8_playerRank_63 rfl k4_224 k1_23 (by decide +kernel) (by decide +kernel) hatX8_253 (Nat.le_of_ble_eq_true rfl) (Nat.le_of_ble_eq_true rfl) hk
theorem mX8_teamRank {L : Nat} {S : q_Ls} {X : q_Lx} {x q : Int32} {P : Int32 → q_H → Option Nat → Prop} (hL : isLx h L S X) (hS : okL S) (hk : ls_l S = true → (rg x 0 4 && decide (0 ≤ q)) = true → ∀ n, n ≤ 4 → te_t (ls_T S) = nI n → ∀ t, t < n → (∀ s, s < t → ¬ l_tb S s x n = q) → l_tb S t x n = q → P (nI t) h z) (h1 : ls_l S = false → Kx E_st h) (h2 : ls_l S = true → (rg x 0 4 && decide (0 ≤ q)) = false → Kx E_ar h) (h3 : ls_l S = true → (rg x 0 4 && decide (0 ≤ q)) = true → ∀ n, n ≤ 4 → te_t (ls_T S) = nI n → (∀ s, s < n → ¬ l_tb S s x n = q) → Kx E_ns h) : QMi V iX8_teamRank [.ref L, .int x, .int q] h z P Kx := by
  obtain ⟨n, hn4, hn⟩ := hS.2.2.1
  refine eX8_teamRank ?_
  refine wX8_teamRank_0 ?_
  refine wX8_teamRank_1 hL.c (mX8_requireLeague hL (fun hl => ?_) h1)
  refine wX8_teamRank_4 ?_
  refine wX8_teamRank_5 ?_
  refine wX8_teamRank_6 ?_
  refine wX8_teamRank_7 (mX8_requireRange (fun g1 => ?_) (fun g1 => h2 hl (by simp [g1])))
  refine wX8_teamRank_10 ?_
  refine wX8_teamRank_11 (mX8_requireNotNegative (fun g2 => ?_) (fun g2 => h2 hl (by simp [g2])))
  refine wX8_teamRank_14 ?_
  refine wX8_teamRank_15 ?_
  refine q_for (P := fun t => (∀ s, s < t → ¬ l_tb S s x n = q) → QW V iX8_teamRank 16 [some (.ref L), some (.int x), some (.int q), some (.int (nI t))] [] h z 1 6 (q_Ki P) Kx) n ?_ ?_ (fun s hs => absurd hs (by omega))
  · intro hne
    refine wX8_teamRank_16 ?_
    refine wX8_teamRank_17 ?_
    refine wX8_teamRank_18 hL.c ?_
    refine wX8_teamRank_21 hL.E.1 ?_
    refine wX8_teamRank_24 (fun c24 => ?_) (fun c24 => absurd (nI_leq hn (Nat.le_refl _) (by omega)) c24)
    exact wX8_teamRank_45 (h3 hl (by simp [g1, g2]) n hn4 hn hne)
  · intro t htn ih hne
    refine wX8_teamRank_16 ?_
    refine wX8_teamRank_17 ?_
    refine wX8_teamRank_18 hL.c ?_
    refine wX8_teamRank_21 hL.E.1 ?_
    refine wX8_teamRank_24 (fun c24 => absurd c24 (nI_geq hn htn (by omega))) (fun c24 => ?_)
    refine wX8_teamRank_27 ?_
    refine wX8_teamRank_28 ?_
    refine wX8_teamRank_29 ?_
    refine wX8_teamRank_30 hL.c (mX8_teamsBefore hL hS (j := t) (by omega) (fun n2 hn2 e2 => ?_))
    obtain rfl : n2 = n := nI_inj (by omega) (by omega) (e2.symm.trans hn)
    refine wX8_teamRank_33 ?_
    refine wX8_teamRank_34 (fun c34 => ?_) (fun c34 => ?_)
    · refine wX8_teamRank_39 ?_
      refine wX8_teamRank_42 ?_
      refine q_ls ?_ (ih (fun s hs => ?_))
      · rw [nI_1]
      · by_cases e : s = t
        · rw [e]; exact c34
        · exact hne s (by omega)
    · refine wX8_teamRank_37 ?_
      refine wX8_teamRank_38  ?_
      exact hk hl (by simp [g1, g2]) n2 hn4 hn t htn hne c34
theorem mX8_playerRank {L : Nat} {S : q_Ls} {X : q_Lx} {q : Int32} {P : Int32 → q_H → Option Nat → Prop} (hL : isLx h L S X) (hS : okL S) (hk : ls_l S = true → decide (0 ≤ q) = true → ∀ n, n ≤ 24 → te_p (ls_T S) = nI n → ∀ t, t < n → (∀ s, s < t → ¬ (pl_has (b_p (ls_B S) s) = true ∧ l_pb S s n = q)) → pl_has (b_p (ls_B S) t) = true → l_pb S t n = q → P (nI t) h z) (h1 : ls_l S = false → Kx E_st h) (h2 : ls_l S = true → decide (0 ≤ q) = false → Kx E_ar h) (h3 : ls_l S = true → decide (0 ≤ q) = true → ∀ n, n ≤ 24 → te_p (ls_T S) = nI n → (∀ s, s < n → ¬ (pl_has (b_p (ls_B S) s) = true ∧ l_pb S s n = q)) → Kx E_ns h) : QMi V iX8_playerRank [.ref L, .int q] h z P Kx := by
  obtain ⟨n, hn24, hn⟩ := hS.2.2.2.1
  refine eX8_playerRank ?_
  refine wX8_playerRank_0 ?_
  refine wX8_playerRank_1 hL.c (mX8_requireLeague hL (fun hl => ?_) h1)
  refine wX8_playerRank_4 ?_
  refine wX8_playerRank_5 (mX8_requireNotNegative (fun g2 => ?_) (fun g2 => h2 hl g2))
  refine wX8_playerRank_8 ?_
  refine wX8_playerRank_9 ?_
  refine q_for (P := fun t => (∀ s, s < t → ¬ (pl_has (b_p (ls_B S) s) = true ∧ l_pb S s n = q)) → QW V iX8_playerRank 10 [some (.ref L), some (.int q), some (.int (nI t))] [] h z 1 6 (q_Ki P) Kx) n ?_ ?_ (fun s hs => absurd hs (by omega))
  · intro hne
    refine wX8_playerRank_10 ?_
    refine wX8_playerRank_11 ?_
    refine wX8_playerRank_12 hL.c ?_
    refine wX8_playerRank_15 hL.E.1 ?_
    refine wX8_playerRank_18 (fun c18 => ?_) (fun c18 => absurd (nI_leq hn (Nat.le_refl _) (by omega)) c18)
    exact wX8_playerRank_53 (h3 hl g2 n hn24 hn hne)
  · intro i htn ih hne
    have hi : i < 24 := by omega
    refine wX8_playerRank_10 ?_
    refine wX8_playerRank_11 ?_
    refine wX8_playerRank_12 hL.c ?_
    refine wX8_playerRank_15 hL.E.1 ?_
    refine wX8_playerRank_18 (fun c18 => absurd c18 (nI_geq hn htn (by omega))) (fun c18 => ?_)
    refine wX8_playerRank_21 ?_
    refine wX8_playerRank_22 hL.c ?_
    refine wX8_playerRank_25 hL.B.1 ?_
    refine wX8_playerRank_28 ?_
    refine wX8_playerRank_29 (t := 4) rfl hL.B.2.1 rfl hi (by decide) (if_pos hi) ?_
    refine wX8_playerRank_30 (hL.B.P hi).1 (mX3_hasContract (hL.B.P hi) ?_)
    refine wX8_playerRank_33 (fun c33 => ?_) (fun c33 => ?_)
    · refine wX8_playerRank_47 ?_
      refine wX8_playerRank_50 ?_
      refine q_ls ?_ (ih (fun s hs => ?_))
      · rw [nI_1]
      · by_cases e : s = i
        · rw [e]
          first
            | (have q9 := q_b0 c33; exact fun z => by rw [q9] at z; cases z.1)
            | (have q9 := c42; exact fun z => q9 z.2)
        · exact hne s (by omega)
    · refine wX8_playerRank_36 ?_
      refine wX8_playerRank_37 ?_
      refine wX8_playerRank_38 hL.c (mX8_playersBefore hL hS hi (fun n2 hn2 e2 => ?_))
      obtain rfl : n2 = n := nI_inj (by omega) (by omega) (e2.symm.trans hn)
      refine wX8_playerRank_41 ?_
      refine wX8_playerRank_42 (fun c42 => ?_) (fun c42 => ?_)
      · refine wX8_playerRank_47 ?_
        refine wX8_playerRank_50 ?_
        refine q_ls ?_ (ih (fun s hs => ?_))
        · rw [nI_1]
        · by_cases e : s = i
          · rw [e]
            first
              | (have q9 := q_b0 c33; exact fun z => by rw [q9] at z; cases z.1)
              | (have q9 := c42; exact fun z => q9 z.2)
          · exact hne s (by omega)
      · refine wX8_playerRank_45 ?_
        refine wX8_playerRank_46  ?_
        exact hk hl g2 n2 hn24 hn i htn hne (q_b1 c33) c42
def mo_0 : q_Mo := (upd (fun _ => 0) 23 (-1), fun _ _ => 0, fun _ _ => 0)
theorem mX9_init {a : Nat} {P : q_H → Option Nat → Prop} (ha : h a = some (.inr (10, [.null, .null, .int 0, .int 0, .int 0, .int 0, .int 0, .int 0, .int 0, .int 0, .int 0, .int 0, .int 0, .null, .null, .null, .int 0, .int 0, .int 0, .int 0, .int 0, .int 0, .int 0, .int 0, .null, .null, .int 0, .null, .int 0, .null, .null, .null, .null, .int 0, .int 0]))) (hk : ∀ h2, isM h2 a mo_0 → q_out a 13 h h2 → P h2 (some (a + 13))) : QMv V iX9_init [.ref a] h (some (a + 1)) P Kx := by
  refine eX9_init ?_
  refine q_lsh rfl (q_up_i ha).symm ?_
  refine wX9_init_0 ?_
  refine wX9_init_1 ?_
  refine wX9_init_4 ?_
  refine wX9_init_5 ?_
  refine wX9_init_8 rfl (by decide) ?_
  rw [q_up_c (by omega)]
  refine wX9_init_10 (by simp only [List.length_set]; decide) ?_
  refine wX9_init_13 ?_
  refine wX9_init_14 ?_
  refine wX9_init_17 rfl (by decide) ?_
  rw [q_up_c (by omega)]
  refine wX9_init_19 (by simp only [List.length_set]; decide) ?_
  refine wX9_init_22 ?_
  refine wX9_init_23 ?_
  refine wX9_init_24 rfl (by decide) ?_
  rw [q_up_c (by omega)]
  refine wX9_init_26 (by simp only [List.length_set]; decide) ?_
  refine wX9_init_29 ?_
  refine wX9_init_30 ?_
  refine wX9_init_31 rfl (by decide) ?_
  rw [q_up_c (by omega)]
  refine wX9_init_33 (by simp only [List.length_set]; decide) ?_
  refine wX9_init_36 ?_
  refine wX9_init_37 ?_
  refine wX9_init_40 rfl (by decide) ?_
  rw [q_up_c (by omega)]
  refine wX9_init_42 (by simp only [List.length_set]; decide) ?_
  refine wX9_init_45 ?_
  refine wX9_init_46 ?_
  refine wX9_init_47 (by simp only [List.length_set]; decide) ?_
  refine wX9_init_50 ?_
  refine wX9_init_51 ?_
  refine wX9_init_53 rfl (by decide) ?_
  rw [q_up_c (by omega)]
  refine wX9_init_55 (by simp only [List.length_set]; decide) ?_
  refine wX9_init_58 ?_
  refine wX9_init_59 ?_
  refine wX9_init_61 rfl (by decide) ?_
  rw [q_up_c (by omega)]
  refine wX9_init_63 (by simp only [List.length_set]; decide) ?_
  refine wX9_init_66 ?_
  refine wX9_init_67 ?_
  refine wX9_init_70 rfl (by decide) ?_
  rw [q_up_c (by omega)]
  refine wX9_init_72 (by simp only [List.length_set]; decide) ?_
  refine wX9_init_75 ?_
  refine wX9_init_76 ?_
  refine wX9_init_79 rfl (by decide) ?_
  rw [q_up_c (by omega)]
  refine wX9_init_81 (by simp only [List.length_set]; decide) ?_
  refine wX9_init_84 ?_
  refine wX9_init_85 ?_
  refine wX9_init_87 rfl (by decide) ?_
  rw [q_up_c (by omega)]
  refine wX9_init_89 (by simp only [List.length_set]; decide) ?_
  refine wX9_init_92 ?_
  refine wX9_init_93 ?_
  refine wX9_init_95 rfl (by decide) ?_
  rw [q_up_c (by omega)]
  refine wX9_init_97 (by simp only [List.length_set]; decide) ?_
  refine wX9_init_100 ?_
  refine wX9_init_101 ?_
  refine wX9_init_103 rfl (by decide) ?_
  rw [q_up_c (by omega)]
  refine wX9_init_105 (by simp only [List.length_set]; decide) ?_
  refine wX9_init_108 ?_
  refine hk _ ⟨?_, fun k hk => ?_, fun k hk => ?_⟩ ?_
  · rw [q_up_s]; rfl
  · rcases hk with rfl | rfl | rfl <;> simp [q_up, mo_0, mlen]
  · obtain ⟨k1, k2, k3⟩ := hk
    rcases (show k = 3 ∨ k = 4 ∨ k = 5 ∨ k = 6 ∨ k = 7 ∨ k = 8 ∨ k = 10 ∨ k = 11 ∨ k = 12 by omega) with rfl | rfl | rfl | rfl | rfl | rfl | rfl | rfl | rfl <;> simp [q_up, mo_0, mlen]
  · intro q hq
    simp only [q_up]
    rw [if_neg (by omega), if_neg (by omega), if_neg (by omega), if_neg (by omega), if_neg (by omega), if_neg (by omega), if_neg (by omega), if_neg (by omega), if_neg (by omega), if_neg (by omega), if_neg (by omega), if_neg (by omega), if_neg (by omega)]
end CX8l

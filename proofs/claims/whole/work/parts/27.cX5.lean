/-! SalaryCapLedger$Releases -/
section CX5
variable {V : q_En} {h : q_H} {z : Option Nat} {Kx : q_KX}
/-- numbers, gains, costs, how many -/
abbrev q_Rl : Type := (Nat → Int32) × (Nat → Int32) × (Nat → Int32) × Nat
abbrev relE (a n : Nat) : q_E := .inr (6, [.ref (a + 1), .ref (a + 2), .ref (a + 3), .int (nI n)])
def isR (h : q_H) (a : Nat) (R : q_Rl) : Prop := h a = some (relE a R.2.2.2) ∧ isA h (a + 1) 12 R.1 ∧ isA h (a + 2) 12 R.2.1 ∧ isA h (a + 3) 12 R.2.2.1
theorem isR.o {a b m : Nat} {R : q_Rl} {h' : q_H} (hR : isR h a R) (ho : q_out b m h h') (ne : a + 4 ≤ b ∨ b + m ≤ a) : isR h' a R :=
  ⟨by rw [ho a (by omega)]; exact hR.1, hR.2.1.o ho (by omega), hR.2.2.1.o ho (by omega), hR.2.2.2.o ho (by omega)⟩
def rl_0 : q_Rl := (fun _ => 0, fun _ => 0, fun _ => 0, 0)
def rl_psh (R : q_Rl) (b : q_Bk) (k : Nat) : q_Rl := (upd R.1 R.2.2.2 (nI k), upd R.2.1 R.2.2.2 (pl_gn (b_p b k) (b_w b) 0), upd R.2.2.1 R.2.2.2 (pl_wc (b_p b k) (b_w b)), R.2.2.2 + 1)
def rl_con (R : q_Rl) (b : q_Bk) (t : Int32) : Nat → q_Rl
  | 0 => (R.1, R.2.1, R.2.2.1, 0)
  | k + 1 => if b_plf b k t = true ∧ (rl_con R b t k).2.2.2 < 12 then rl_psh (rl_con R b t k) b k else rl_con R b t k
theorem rl_con_le {R : q_Rl} {b : q_Bk} {t : Int32} (k : Nat) : (rl_con R b t k).2.2.2 ≤ 12 := by
  induction k with
  | zero => exact Nat.zero_le _
  | succ k ih => rw [rl_con]; split
                 · rename_i q; exact q.2
                 · exact ih
theorem rl_con_stop {R : q_Rl} {b : q_Bk} {t : Int32} {i : Nat} (h12 : 12 ≤ (rl_con R b t i).2.2.2) (j : Nat) : rl_con R b t (i + j) = rl_con R b t i := by
  induction j with
  | zero => rfl
  | succ j ih =>
    rw [show i + (j + 1) = i + j + 1 from rfl, rl_con, ih, if_neg (by omega)]
def q_on : Option Nat → Int32
  | none => -1
  | some j => nI j
/-- the place with the greatest gain that is not used -/
def rl_gg (g : Nat → Int32) (u : Int32) : Nat → Option Nat
  | 0 => none
  | k + 1 => match rl_gg g u k with
    | none => if (u >>> (nI k &&& 31)) &&& 1 = 0 ∧ ¬ g k ≤ 0 then some k else none
    | some j => if (u >>> (nI k &&& 31)) &&& 1 = 0 ∧ ¬ g k ≤ 0 ∧ ¬ g k ≤ g j then some k else some j
theorem rl_gg_lt {g : Nat → Int32} {u : Int32} {n j : Nat} (e : rl_gg g u n = some j) : j < n := by
  induction n generalizing j with
  | zero => cases e
  | succ n ih =>
    rw [rl_gg] at e
    split at e
    · split at e
      · cases e; omega
      · cases e
    · rename_i j' q
      have := ih q
      split at e <;> cases e <;> omega
def rl_few (g : Nat → Int32) (n : Nat) (need : Int32) : Nat → Nat → Int32 → Int32 → Int32
  | 0, _, _, _ => -2
  | f + 1, i, s, u => if s < need then (match rl_gg g u n with | none => -2 | some j => rl_few g n need f (i + 1) (s + g j) (u ||| ((1 : Int32) <<< (nI j &&& 31)))) else nI i
def rl_sum (g : Nat → Int32) (n : Nat) (s : Int32) : Int32 := q_ac 0 (fun k => if q_bit s k then g k else 0) n
def rl_nm (f : Nat → Int32) (s : Int32) : Nat → Int32
  | 0 => 0
  | k + 1 => if q_bit s k then rl_nm f s k ||| ((1 : Int32) <<< (f k &&& 31)) else rl_nm f s k
def rl_ch (g c : Nat → Int32) (n : Nat) (need w : Int32) : Nat → Int32 × Int32
  | 0 => (-1, 0)
  | k + 1 => if q_bc (nI k) = w ∧ ¬ rl_sum g n (nI k) < need ∧ ((rl_ch g c n need w k).1 = -1 ∨ ¬ (rl_ch g c n need w k).2 ≤ rl_sum c n (nI k)) then (nI k, rl_sum c n (nI k)) else rl_ch g c n need w k
def rl_fw (R : q_Rl) (need : Int32) : Int32 := rl_few R.2.1 R.2.2.2 need (R.2.2.2 + 1) 0 0 0
def rl_cs (R : q_Rl) (need : Int32) : Int32 :=
  if 0 ≤ rl_fw R need then
    (if (rl_ch R.2.1 R.2.2.1 R.2.2.2 need (rl_fw R need) (2 ^ R.2.2.2)).1 = -1 then -2 else rl_nm R.1 (rl_ch R.2.1 R.2.2.1 R.2.2.2 need (rl_fw R need) (2 ^ R.2.2.2)).1 R.2.2.2)
  else -2
theorem nI_n1 : ∀ j, j < 12 → ¬ nI j = -1 := by decide
theorem nI_sh : ∀ n, n < 13 → (1 : Int32) <<< (nI n &&& 31) = nI (2 ^ n) := by decide
theorem two_le {n : Nat} (h : n ≤ 12) : 2 ^ n ≤ 4096 := Nat.le_trans (Nat.pow_le_pow_right (by decide) h) (by decide)
theorem mX5_init {a : Nat} {P : q_H → Option Nat → Prop} (ha : h a = some (.inr (6, [.null, .null, .null, .int 0]))) (hk : ∀ h', isR h' a rl_0 → q_out a 4 h h' → P h' (some (a + 4))) : QMv V iX5_init [.ref a] h (some (a + 1)) P Kx := by
  refine eX5_init ?_
  refine wX5_init_0 ?_
  refine wX5_init_1 ?_
  refine wX5_init_4 ?_
  refine wX5_init_5 ?_
  refine wX5_init_7 rfl (by decide) ?_
  refine wX5_init_9 (by rw [q_up_n (by omega)]; exact ha) ?_
  refine wX5_init_12 ?_
  refine wX5_init_13 ?_
  refine wX5_init_15 rfl (by decide) ?_
  refine wX5_init_17 (by rw [q_up_n (by omega)]; exact q_up_s) ?_
  refine wX5_init_20 ?_
  refine wX5_init_21 ?_
  refine wX5_init_23 rfl (by decide) ?_
  refine wX5_init_25 (by rw [q_up_n (by omega)]; exact q_up_s) ?_
  refine wX5_init_28 ?_
  refine wX5_init_29 ?_
  refine wX5_init_30u ?_
  refine wX5_init_33  ?_
  refine hk _ ⟨q_up_s, ?_, ?_, ?_⟩ (fun q hq => by simp only [q_up_n (show q ≠ a by omega), q_up_n (show q ≠ a + 1 by omega), q_up_n (show q ≠ a + 1 + 1 by omega), q_up_n (show q ≠ a + 1 + 1 + 1 by omega)])
  · exact ⟨fun _ => 0, by simp [q_up], fun _ _ => rfl⟩
  · exact ⟨fun _ => 0, by simp [q_up], fun _ _ => rfl⟩
  · exact ⟨fun _ => 0, by simp [q_up], fun _ _ => rfl⟩
theorem mX5_greatestGain {a : Nat} {R : q_Rl} {u : Int32} {P : Int32 → q_H → Option Nat → Prop} (hR : isR h a R) (hn : R.2.2.2 ≤ 12) (hk : P (q_on (rl_gg R.2.1 u R.2.2.2)) h z) : QMi V iX5_greatestGain [.ref a, .int u] h z P Kx := by
  obtain ⟨g, hg, eg⟩ := hR.2.2.1
  refine eX5_greatestGain ?_
  refine wX5_greatestGain_0 ?_
  refine wX5_greatestGain_1 ?_
  refine wX5_greatestGain_2 ?_
  refine wX5_greatestGain_3 ?_
  refine q_for (P := fun i => QW V iX5_greatestGain 4 [some (.ref a), some (.int u), some (.int (q_on (rl_gg R.2.1 u i))), some (.int (nI i))] [] h z 0 0 (q_Ki P) Kx) R.2.2.2 ?_ (fun i hi ih => ?_)
  · refine wX5_greatestGain_4 ?_
    refine wX5_greatestGain_5 ?_
    refine wX5_greatestGain_6 hR.1 ?_
    refine wX5_greatestGain_9 (fun c9 => ?_) (fun c9 => absurd (nI_le (Nat.le_refl _) (by omega)) c9)
    refine wX5_greatestGain_57 ?_
    refine wX5_greatestGain_58  ?_
    exact hk
  · rcases hq : rl_gg R.2.1 u i with _ | j
    · refine wX5_greatestGain_4 ?_
      refine wX5_greatestGain_5 ?_
      refine wX5_greatestGain_6 hR.1 ?_
      refine wX5_greatestGain_9 (fun c9 => absurd c9 (nI_ge hi (by omega))) (fun c9 => ?_)
      refine wX5_greatestGain_12 ?_
      refine wX5_greatestGain_13 ?_
      refine wX5_greatestGain_14 ?_
      refine wX5_greatestGain_15 ?_
      refine wX5_greatestGain_16 ?_
      refine wX5_greatestGain_17 (fun c17 => ?_) (fun c17 => ?_)
      · refine wX5_greatestGain_51 ?_
        refine wX5_greatestGain_54 ?_
        refine q_ls ?_ ih
        rw [nI_1]
        first
          | simp [rl_gg, hq, q_on, c17, c26, c46]
          | simp [rl_gg, hq, q_on, c17, c26]
          | simp [rl_gg, hq, q_on, c17]
      · refine wX5_greatestGain_20 ?_
        refine wX5_greatestGain_21 hR.1 ?_
        refine wX5_greatestGain_24 ?_
        refine wX5_greatestGain_25 hg rfl (by omega) (by decide) ?_
        rw [eg _ (by omega)]
        refine wX5_greatestGain_26 (fun c26 => ?_) (fun c26 => ?_)
        · refine wX5_greatestGain_51 ?_
          refine wX5_greatestGain_54 ?_
          refine q_ls ?_ ih
          rw [nI_1]
          first
            | simp [rl_gg, hq, q_on, c17, c26, c46]
            | simp [rl_gg, hq, q_on, c17, c26]
            | simp [rl_gg, hq, q_on, c17]
        · refine wX5_greatestGain_29 ?_
          refine wX5_greatestGain_30 ?_
          refine wX5_greatestGain_31 (fun c31 => ?_) (fun c31 => absurd rfl c31)
          refine wX5_greatestGain_49 ?_
          refine wX5_greatestGain_50 ?_
          refine wX5_greatestGain_51 ?_
          refine wX5_greatestGain_54 ?_
          refine q_ls ?_ ih
          rw [nI_1]
          first
            | simp [rl_gg, hq, q_on, c17, c26, c46]
            | simp [rl_gg, hq, q_on, c17, c26]
            | simp [rl_gg, hq, q_on, c17]
    · have hj : j < 12 := by have := rl_gg_lt hq; omega
      refine wX5_greatestGain_4 ?_
      refine wX5_greatestGain_5 ?_
      refine wX5_greatestGain_6 hR.1 ?_
      refine wX5_greatestGain_9 (fun c9 => absurd c9 (nI_ge hi (by omega))) (fun c9 => ?_)
      refine wX5_greatestGain_12 ?_
      refine wX5_greatestGain_13 ?_
      refine wX5_greatestGain_14 ?_
      refine wX5_greatestGain_15 ?_
      refine wX5_greatestGain_16 ?_
      refine wX5_greatestGain_17 (fun c17 => ?_) (fun c17 => ?_)
      · refine wX5_greatestGain_51 ?_
        refine wX5_greatestGain_54 ?_
        refine q_ls ?_ ih
        rw [nI_1]
        first
          | simp [rl_gg, hq, q_on, c17, c26, c46]
          | simp [rl_gg, hq, q_on, c17, c26]
          | simp [rl_gg, hq, q_on, c17]
      · refine wX5_greatestGain_20 ?_
        refine wX5_greatestGain_21 hR.1 ?_
        refine wX5_greatestGain_24 ?_
        refine wX5_greatestGain_25 hg rfl (by omega) (by decide) ?_
        rw [eg _ (by omega)]
        refine wX5_greatestGain_26 (fun c26 => ?_) (fun c26 => ?_)
        · refine wX5_greatestGain_51 ?_
          refine wX5_greatestGain_54 ?_
          refine q_ls ?_ ih
          rw [nI_1]
          first
            | simp [rl_gg, hq, q_on, c17, c26, c46]
            | simp [rl_gg, hq, q_on, c17, c26]
            | simp [rl_gg, hq, q_on, c17]
        · refine wX5_greatestGain_29 ?_
          refine wX5_greatestGain_30 ?_
          refine wX5_greatestGain_31 (fun c31 => absurd c31 (nI_n1 _ hj)) (fun c31 => ?_)
          refine wX5_greatestGain_34 ?_
          refine wX5_greatestGain_35 hR.1 ?_
          refine wX5_greatestGain_38 ?_
          refine wX5_greatestGain_39 hg rfl (by omega) (by decide) ?_
          rw [eg _ (by omega)]
          refine wX5_greatestGain_40 ?_
          refine wX5_greatestGain_41 hR.1 ?_
          refine wX5_greatestGain_44 ?_
          refine wX5_greatestGain_45 hg rfl hj (by decide) ?_
          rw [eg _ hj]
          refine wX5_greatestGain_46 (fun c46 => ?_) (fun c46 => ?_)
          · refine wX5_greatestGain_51 ?_
            refine wX5_greatestGain_54 ?_
            refine q_ls ?_ ih
            rw [nI_1]
            first
              | simp [rl_gg, hq, q_on, c17, c26, c46]
              | simp [rl_gg, hq, q_on, c17, c26]
              | simp [rl_gg, hq, q_on, c17]
          · refine wX5_greatestGain_49 ?_
            refine wX5_greatestGain_50 ?_
            refine wX5_greatestGain_51 ?_
            refine wX5_greatestGain_54 ?_
            refine q_ls ?_ ih
            rw [nI_1]
            first
              | simp [rl_gg, hq, q_on, c17, c26, c46]
              | simp [rl_gg, hq, q_on, c17, c26]
              | simp [rl_gg, hq, q_on, c17]
theorem mX5_fewest_lp {a : Nat} {R : q_Rl} {need : Int32} {P : Int32 → q_H → Option Nat → Prop} (hR : isR h a R) (hn : R.2.2.2 ≤ 12) : ∀ f i s u, i + f = R.2.2.2 + 1 → P (rl_few R.2.1 R.2.2.2 need f i s u) h z → QW V iX5_fewest 7 [some (.ref a), some (.int need), some (.int s), some (.int u), some (.int (nI i)), none] [] h z 0 0 (q_Ki P) Kx := by
  obtain ⟨g, hg, eg⟩ := hR.2.2.1
  intro f
  induction f with
  | zero =>
    intro i s u hi hk
    rw [rl_few] at hk
    refine wX5_fewest_7 ?_
    refine wX5_fewest_9 ?_
    refine wX5_fewest_10 hR.1 ?_
    refine wX5_fewest_13 (fun c13 => ?_) (fun c13 => absurd (by rw [← Int32.not_le]; exact nI_ge (by omega) (by omega)) c13)
    refine wX5_fewest_63 ?_
    refine wX5_fewest_65  ?_
    exact hk
  | succ f ih =>
    intro i s u hi hk
    refine wX5_fewest_7 ?_
    refine wX5_fewest_9 ?_
    refine wX5_fewest_10 hR.1 ?_
    refine wX5_fewest_13 (fun c13 => absurd c13 (by rw [Int32.not_lt]; exact nI_le (by omega) (by omega))) (fun c13 => ?_)
    refine wX5_fewest_16 ?_
    refine wX5_fewest_17 ?_
    refine wX5_fewest_18 (fun c18 => ?_) (fun c18 => ?_)
    · refine wX5_fewest_24 ?_
      refine wX5_fewest_25 ?_
      refine wX5_fewest_26 hR.1 (mX5_greatestGain hR hn ?_)
      refine wX5_fewest_29 ?_
      refine wX5_fewest_31 ?_
      refine wX5_fewest_33 ?_
      refine wX5_fewest_34 (fun c34 => ?_) (fun c34 => ?_)
      · rcases hq : rl_gg R.2.1 u R.2.2.2 with _ | j
        · rw [hq] at c34; exact absurd rfl c34
        have hj : j < 12 := by have := rl_gg_lt hq; omega
        refine wX5_fewest_40 ?_
        refine wX5_fewest_41 ?_
        refine wX5_fewest_42 ?_
        refine wX5_fewest_44 ?_
        refine wX5_fewest_45 ?_
        refine wX5_fewest_46 ?_
        refine wX5_fewest_47 ?_
        refine wX5_fewest_48 ?_
        refine wX5_fewest_49 hR.1 ?_
        refine wX5_fewest_52 ?_
        refine wX5_fewest_54 hg rfl hj (by decide) ?_
        rw [eg _ hj]
        refine wX5_fewest_55 ?_
        refine wX5_fewest_56 ?_
        refine wX5_fewest_57 ?_
        refine wX5_fewest_60 ?_
        rw [rl_few, if_pos c18, hq] at hk
        exact q_drp 5 (q_ls (by rw [nI_1]; rfl) (ih (i + 1) _ _ (by omega) hk))
      · refine wX5_fewest_37 ?_
        refine wX5_fewest_39  ?_
        rcases hq : rl_gg R.2.1 u R.2.2.2 with _ | j
        · rw [rl_few, if_pos c18, hq] at hk; exact hk
        · rw [hq] at c34; exact absurd c34 (nI_n1 j (by have := rl_gg_lt hq; omega))
    · refine wX5_fewest_21 ?_
      refine wX5_fewest_23  ?_
      rw [rl_few, if_neg c18] at hk; exact hk
theorem mX5_fewest {a : Nat} {R : q_Rl} {need : Int32} {P : Int32 → q_H → Option Nat → Prop} (hR : isR h a R) (hn : R.2.2.2 ≤ 12) (hk : P (rl_fw R need) h z) : QMi V iX5_fewest [.ref a, .int need] h z P Kx := by
  refine eX5_fewest ?_
  refine wX5_fewest_0 ?_
  refine wX5_fewest_1 ?_
  refine wX5_fewest_2 ?_
  refine wX5_fewest_3 ?_
  refine wX5_fewest_4 ?_
  refine wX5_fewest_5 ?_
  exact mX5_fewest_lp hR hn (R.2.2.2 + 1) 0 0 0 (by omega) hk
theorem mX5_sumAt {a d : Nat} {R : q_Rl} {s : Int32} {f : Nat → Int32} {P : Int32 → q_H → Option Nat → Prop} (hR : isR h a R) (hn : R.2.2.2 ≤ 12) (hA : isA h d 12 f) (hk : P (rl_sum f R.2.2.2 s) h z) : QMi V iX5_sumAt [.ref a, .ref d, .int s] h z P Kx := by
  obtain ⟨g, hg, eg⟩ := hA
  refine eX5_sumAt ?_
  refine wX5_sumAt_0 ?_
  refine wX5_sumAt_1 ?_
  refine wX5_sumAt_2 ?_
  refine wX5_sumAt_3 ?_
  refine q_for (P := fun i => QW V iX5_sumAt 5 [some (.ref a), some (.ref d), some (.int s), some (.int (q_ac 0 (fun k => if q_bit s k then f k else 0) i)), some (.int (nI i))] [] h z 0 0 (q_Ki P) Kx) R.2.2.2 ?_ (fun i hi ih => ?_)
  · refine wX5_sumAt_5 ?_
    refine wX5_sumAt_7 ?_
    refine wX5_sumAt_8 hR.1 ?_
    refine wX5_sumAt_11 (fun c11 => ?_) (fun c11 => absurd (nI_le (Nat.le_refl _) (by omega)) c11)
    refine wX5_sumAt_37 ?_
    refine wX5_sumAt_38  ?_
    exact hk
  · refine wX5_sumAt_5 ?_
    refine wX5_sumAt_7 ?_
    refine wX5_sumAt_8 hR.1 ?_
    refine wX5_sumAt_11 (fun c11 => absurd c11 (nI_ge hi (by omega))) (fun c11 => ?_)
    refine wX5_sumAt_14 ?_
    refine wX5_sumAt_15 ?_
    refine wX5_sumAt_17 ?_
    refine wX5_sumAt_18 ?_
    refine wX5_sumAt_19 ?_
    refine wX5_sumAt_20 ?_
    refine wX5_sumAt_21 (fun c21 => ?_) (fun c21 => ?_)
    · refine wX5_sumAt_31 ?_
      refine wX5_sumAt_34 ?_
      refine q_ls ?_ ih
      rw [nI_1]
      simp [q_ac, q_bit, c21]
    · refine wX5_sumAt_24 ?_
      refine wX5_sumAt_25 ?_
      refine wX5_sumAt_26 ?_
      refine wX5_sumAt_28 hg rfl (by omega) (by decide) ?_
      rw [eg _ (by omega)]
      refine wX5_sumAt_29 ?_
      refine wX5_sumAt_30 ?_
      refine wX5_sumAt_31 ?_
      refine wX5_sumAt_34 ?_
      refine q_ls ?_ ih
      rw [nI_1]
      simp [q_ac, q_bit, c21]
theorem mX5_numbersAt {a : Nat} {R : q_Rl} {s : Int32} {P : Int32 → q_H → Option Nat → Prop} (hR : isR h a R) (hn : R.2.2.2 ≤ 12) (hk : P (rl_nm R.1 s R.2.2.2) h z) : QMi V iX5_numbersAt [.ref a, .int s] h z P Kx := by
  obtain ⟨g, hg, eg⟩ := hR.2.1
  refine eX5_numbersAt ?_
  refine wX5_numbersAt_0 ?_
  refine wX5_numbersAt_1 ?_
  refine wX5_numbersAt_2 ?_
  refine wX5_numbersAt_3 ?_
  refine q_for (P := fun i => QW V iX5_numbersAt 4 [some (.ref a), some (.int s), some (.int (rl_nm R.1 s i)), some (.int (nI i))] [] h z 0 0 (q_Ki P) Kx) R.2.2.2 ?_ (fun i hi ih => ?_)
  · refine wX5_numbersAt_4 ?_
    refine wX5_numbersAt_5 ?_
    refine wX5_numbersAt_6 hR.1 ?_
    refine wX5_numbersAt_9 (fun c9 => ?_) (fun c9 => absurd (nI_le (Nat.le_refl _) (by omega)) c9)
    refine wX5_numbersAt_38 ?_
    refine wX5_numbersAt_39  ?_
    exact hk
  · refine wX5_numbersAt_4 ?_
    refine wX5_numbersAt_5 ?_
    refine wX5_numbersAt_6 hR.1 ?_
    refine wX5_numbersAt_9 (fun c9 => absurd c9 (nI_ge hi (by omega))) (fun c9 => ?_)
    refine wX5_numbersAt_12 ?_
    refine wX5_numbersAt_13 ?_
    refine wX5_numbersAt_14 ?_
    refine wX5_numbersAt_15 ?_
    refine wX5_numbersAt_16 ?_
    refine wX5_numbersAt_17 ?_
    refine wX5_numbersAt_18 (fun c18 => ?_) (fun c18 => ?_)
    · refine wX5_numbersAt_32 ?_
      refine wX5_numbersAt_35 ?_
      refine q_ls ?_ ih
      rw [nI_1]
      simp [rl_nm, q_bit, c18]
    · refine wX5_numbersAt_21 ?_
      refine wX5_numbersAt_22 ?_
      refine wX5_numbersAt_23 ?_
      refine wX5_numbersAt_24 hR.1 ?_
      refine wX5_numbersAt_27 ?_
      refine wX5_numbersAt_28 hg rfl (by omega) (by decide) ?_
      rw [eg _ (by omega)]
      refine wX5_numbersAt_29 ?_
      refine wX5_numbersAt_30 ?_
      refine wX5_numbersAt_31 ?_
      refine wX5_numbersAt_32 ?_
      refine wX5_numbersAt_35 ?_
      refine q_ls ?_ ih
      rw [nI_1]
      simp [rl_nm, q_bit, c18]
theorem mX5_cheapestSet {a : Nat} {R : q_Rl} {need : Int32} {P : Int32 → q_H → Option Nat → Prop} (hR : isR h a R) (hn : R.2.2.2 ≤ 12) (hk : P (rl_cs R need) h z) : QMi V iX5_cheapestSet [.ref a, .int need] h z P Kx := by
  have h2 := two_le hn
  refine eX5_cheapestSet ?_
  refine wX5_cheapestSet_0 ?_
  refine wX5_cheapestSet_1 ?_
  refine wX5_cheapestSet_2 hR.1 (mX5_fewest hR hn ?_)
  refine wX5_cheapestSet_5 ?_
  refine wX5_cheapestSet_6 ?_
  refine wX5_cheapestSet_7 (fun c7 => ?_) (fun c7 => ?_)
  · refine wX5_cheapestSet_13 ?_
    refine wX5_cheapestSet_14 ?_
    refine wX5_cheapestSet_15 ?_
    refine wX5_cheapestSet_16 ?_
    refine wX5_cheapestSet_18 ?_
    refine wX5_cheapestSet_19 ?_
    refine q_for (P := fun i => QW V iX5_cheapestSet 21 [some (.ref a), some (.int need), some (.int (rl_fw R need)), some (.int (rl_ch R.2.1 R.2.2.1 R.2.2.2 need (rl_fw R need) i).1), some (.int (rl_ch R.2.1 R.2.2.1 R.2.2.2 need (rl_fw R need) i).2), some (.int (nI i))] [] h z 0 0 (q_Ki P) Kx) (2 ^ R.2.2.2) ?_ (fun i hi ih => ?_)
    · refine wX5_cheapestSet_21 ?_
      refine wX5_cheapestSet_23 ?_
      refine wX5_cheapestSet_24 ?_
      refine wX5_cheapestSet_25 hR.1 ?_
      refine wX5_cheapestSet_28 ?_
      rw [nI_sh _ (by omega)]
      refine wX5_cheapestSet_29 (fun c29 => ?_) (fun c29 => absurd (nI_le (Nat.le_refl _) (by omega)) c29)
      refine wX5_cheapestSet_96 ?_
      refine wX5_cheapestSet_97 ?_
      refine wX5_cheapestSet_98 (fun c98 => ?_) (fun c98 => ?_)
      · refine wX5_cheapestSet_106 ?_
        refine wX5_cheapestSet_107 ?_
        refine wX5_cheapestSet_108 hR.1 (mX5_numbersAt hR hn ?_)
        refine wX5_cheapestSet_111  ?_
        first
          | exact q_cv (by rw [rl_cs, if_pos c7, if_pos c98]) hk
          | exact q_cv (by rw [rl_cs, if_pos c7, if_neg c98]) hk
      · refine wX5_cheapestSet_101 ?_
        refine wX5_cheapestSet_103 ?_
        refine wX5_cheapestSet_111  ?_
        first
          | exact q_cv (by rw [rl_cs, if_pos c7, if_pos c98]) hk
          | exact q_cv (by rw [rl_cs, if_pos c7, if_neg c98]) hk
    · refine wX5_cheapestSet_21 ?_
      refine wX5_cheapestSet_23 ?_
      refine wX5_cheapestSet_24 ?_
      refine wX5_cheapestSet_25 hR.1 ?_
      refine wX5_cheapestSet_28 ?_
      rw [nI_sh _ (by omega)]
      refine wX5_cheapestSet_29 (fun c29 => absurd c29 (nI_ge hi (by omega))) (fun c29 => ?_)
      refine wX5_cheapestSet_32 ?_
      refine wX5_cheapestSet_34 (mJ6_bitCount_0f7a4 ?_)
      refine wX5_cheapestSet_37 ?_
      refine wX5_cheapestSet_38 (fun c38 => ?_) (fun c38 => ?_)
      · refine wX5_cheapestSet_90 ?_
        refine wX5_cheapestSet_93 ?_
        refine q_ls ?_ ih
        rw [nI_1]
        first
          | simp [rl_ch, c38, c52, c57, c72]
          | simp [rl_ch, c38, c52, c57]
          | simp [rl_ch, c38, c52]
          | simp [rl_ch, c38]
      · refine wX5_cheapestSet_41 ?_
        refine wX5_cheapestSet_42 ?_
        refine wX5_cheapestSet_43 hR.1 ?_
        refine wX5_cheapestSet_46 ?_
        refine wX5_cheapestSet_48 hR.1 (mX5_sumAt hR hn hR.2.2.1 ?_)
        refine wX5_cheapestSet_51 ?_
        refine wX5_cheapestSet_52 (fun c52 => ?_) (fun c52 => ?_)
        · refine wX5_cheapestSet_90 ?_
          refine wX5_cheapestSet_93 ?_
          refine q_ls ?_ ih
          rw [nI_1]
          first
            | simp [rl_ch, c38, c52, c57, c72]
            | simp [rl_ch, c38, c52, c57]
            | simp [rl_ch, c38, c52]
            | simp [rl_ch, c38]
        · refine wX5_cheapestSet_55 ?_
          refine wX5_cheapestSet_56 ?_
          refine wX5_cheapestSet_57 (fun c57 => ?_) (fun c57 => ?_)
          · refine wX5_cheapestSet_75 ?_
            refine wX5_cheapestSet_77 ?_
            refine wX5_cheapestSet_78 ?_
            refine wX5_cheapestSet_79 ?_
            refine wX5_cheapestSet_80 hR.1 ?_
            refine wX5_cheapestSet_83 ?_
            refine wX5_cheapestSet_85 hR.1 (mX5_sumAt hR hn hR.2.2.2 ?_)
            refine wX5_cheapestSet_88 ?_
            refine wX5_cheapestSet_90 ?_
            refine wX5_cheapestSet_93 ?_
            refine q_ls ?_ ih
            rw [nI_1]
            first
              | simp [rl_ch, c38, c52, c57, c72]
              | simp [rl_ch, c38, c52, c57]
              | simp [rl_ch, c38, c52]
              | simp [rl_ch, c38]
          · refine wX5_cheapestSet_60 ?_
            refine wX5_cheapestSet_61 ?_
            refine wX5_cheapestSet_62 hR.1 ?_
            refine wX5_cheapestSet_65 ?_
            refine wX5_cheapestSet_67 hR.1 (mX5_sumAt hR hn hR.2.2.2 ?_)
            refine wX5_cheapestSet_70 ?_
            refine wX5_cheapestSet_72 (fun c72 => ?_) (fun c72 => ?_)
            · refine wX5_cheapestSet_90 ?_
              refine wX5_cheapestSet_93 ?_
              refine q_ls ?_ ih
              rw [nI_1]
              first
                | simp [rl_ch, c38, c52, c57, c72]
                | simp [rl_ch, c38, c52, c57]
                | simp [rl_ch, c38, c52]
                | simp [rl_ch, c38]
            · refine wX5_cheapestSet_75 ?_
              refine wX5_cheapestSet_77 ?_
              refine wX5_cheapestSet_78 ?_
              refine wX5_cheapestSet_79 ?_
              refine wX5_cheapestSet_80 hR.1 ?_
              refine wX5_cheapestSet_83 ?_
              refine wX5_cheapestSet_85 hR.1 (mX5_sumAt hR hn hR.2.2.2 ?_)
              refine wX5_cheapestSet_88 ?_
              refine wX5_cheapestSet_90 ?_
              refine wX5_cheapestSet_93 ?_
              refine q_ls ?_ ih
              rw [nI_1]
              first
                | simp [rl_ch, c38, c52, c57, c72]
                | simp [rl_ch, c38, c52, c57]
                | simp [rl_ch, c38, c52]
                | simp [rl_ch, c38]
  · refine wX5_cheapestSet_10 ?_
    refine wX5_cheapestSet_12  ?_
    exact q_cv (by rw [rl_cs, if_neg c7]) hk
theorem mX5_consider {a d : Nat} {R : q_Rl} {b : q_Bk} {t : Int32} {P : q_H → Option Nat → Prop} (hR : isR h a R) (hB : isB h d b) (had : a + 4 ≤ d ∨ d + 60 ≤ a) (hk : ∀ h', isR h' a (rl_con R b t 24) → q_out a 4 h h' → P h' z) : QMv V iX5_consider [.ref a, .ref d, .int t] h z P Kx := by
  refine eX5_consider ?_
  refine wX5_consider_0 ?_
  refine wX5_consider_1 ?_
  refine wX5_consider_2 hR.1 ?_
  refine wX5_consider_5 ?_
  refine wX5_consider_6 ?_
  refine q_for (P := fun i => ∀ hh, (isR hh a (rl_con R b t i) ∧ q_out a 4 h hh) → QW V iX5_consider 7 [some (.ref a), some (.ref d), some (.int t), some (.int (nI i))] [] hh z 0 0 (q_Kv P) Kx) 24 ?_ ?_ _ ⟨⟨q_up_s, hR.2.1.n (by omega), hR.2.2.1.n (by omega), hR.2.2.2.n (by omega)⟩, q_out.up (by omega) (by omega)⟩
  · rintro hh ⟨hR, ho⟩
    refine wX5_consider_7 ?_
    refine wX5_consider_8 ?_
    refine wX5_consider_10 (fun c10 => ?_) (fun c10 => absurd (by decide) c10)
    refine wX5_consider_102  ?_
    exact hk _ hR ho
  · rintro i hi ih hh ⟨hR, ho⟩
    have hle := rl_con_le (R := R) (b := b) (t := t) i
    have hB := hB.o ho (by omega)
    obtain ⟨g1, hg1, eg1⟩ := hR.2.1
    obtain ⟨g2, hg2, eg2⟩ := hR.2.2.1
    obtain ⟨g3, hg3, eg3⟩ := hR.2.2.2
    generalize hr : rl_con R b t i = r at *
    refine wX5_consider_7 ?_
    refine wX5_consider_8 ?_
    refine wX5_consider_10 (fun c10 => absurd c10 (nI_ge (b := 24) hi (by decide))) (fun c10 => ?_)
    refine wX5_consider_13 ?_
    refine wX5_consider_14 hR.1 ?_
    refine wX5_consider_17 ?_
    refine wX5_consider_19 (fun c19 => ?_) (fun c19 => ?_)
    · refine wX5_consider_102  ?_
      have h12 : 12 ≤ r.2.2.2 := by
        by_cases q : r.2.2.2 < 12
        · exact absurd c19 (nI_ge (b := 12) q (by decide))
        · omega
      have := rl_con_stop (R := R) (b := b) (t := t) (i := i) (by rw [hr]; exact h12) (24 - i)
      rw [show i + (24 - i) = 24 by omega, hr] at this
      rw [this] at hk
      exact hk _ hR ho
    · have hs : r.2.2.2 < 12 := by
        by_cases q : r.2.2.2 < 12
        · exact q
        · exact absurd (nI_le (a := 12) (by omega) (by omega)) c19
      refine wX5_consider_22 ?_
      refine wX5_consider_23 ?_
      refine wX5_consider_24 ?_
      refine wX5_consider_25 hB.1 (mX0_playsFor hB hi ?_)
      refine wX5_consider_28 (fun c28 => ?_) (fun c28 => ?_)
      · refine wX5_consider_96 ?_
        refine wX5_consider_99 ?_
        first
          | (refine q_ls (by rw [nI_1]) (ih _ ⟨?_, ho.trans ((ho2.trans (q_out.up (by omega) (by omega))).trans (q_out.up (by omega) (by omega)))⟩)
             rw [rl_con, hr, if_pos ⟨q_b1 c28, hs⟩]
             refine ⟨by rw [nI_1]; exact q_up_s, ?_, ?_, ?_⟩
             · refine (((isA.w fun k hk => ?_).n (by omega)).n (by omega)).n (by omega)
               show upd g1 _ _ k = upd r.1 _ _ k
               unfold upd; split
               · rfl
               · exact eg1 k hk
             · refine ((isA.w fun k hk => ?_).n (by omega)).n (by omega)
               show upd g2 _ _ k = upd r.2.1 _ _ k
               unfold upd; split
               · rfl
               · exact eg2 k hk
             · refine (isA.w fun k hk => ?_).n (by omega)
               show upd g3 _ _ k = upd r.2.2.1 _ _ k
               unfold upd; split
               · rfl
               · exact eg3 k hk)
          | (refine q_ls (by rw [nI_1]) (ih _ ⟨?_, ho⟩)
             rw [rl_con, hr, if_neg (by rw [q_b0 c28]; simp)]
             exact hR)
      · refine wX5_consider_31 ?_
        refine wX5_consider_32 hR.1 ?_
        refine wX5_consider_35 ?_
        refine wX5_consider_36 hR.1 ?_
        refine wX5_consider_39 ?_
        refine wX5_consider_40 hg1 rfl hs (by decide) ?_
        have ho1 : q_out a 4 hh (q_up hh (a + 1) (.inl (1, 12, .inl (upd g1 r.2.2.2 (nI i))))) := q_out.up (by omega) (by omega)
        have hB1 := hB.o ho1 (by omega)
        refine wX5_consider_41 ?_
        refine wX5_consider_42 (by rw [q_up_n (by omega)]; exact hR.1) ?_
        refine wX5_consider_45 ?_
        refine wX5_consider_46 (by rw [q_up_n (by omega)]; exact hR.1) ?_
        refine wX5_consider_49 ?_
        refine wX5_consider_50 hB1.1 ?_
        refine wX5_consider_53 ?_
        refine wX5_consider_54 (t := 4) rfl hB1.2.1 rfl hi (by decide) (if_pos hi) ?_
        refine wX5_consider_55 ?_
        refine wX5_consider_56 hB1.1 ?_
        refine wX5_consider_59 ?_
        refine wX5_consider_60 (hB1.P hi).1 (mX3_gainIfReleased (hB1.P hi) ?_)
        refine wX5_consider_63 (by rw [q_up_n (by omega)]; exact hg2) rfl hs (by decide) ?_
        have ho2 := ho1.trans (q_out.up (a := a) (n := 4) (b := a + 2) (e := .inl (1, 12, .inl (upd g2 r.2.2.2 (pl_gn (b_p b i) (b_w b) 0)))) (by omega) (by omega))
        have hB2 := hB.o ho2 (by omega)
        refine wX5_consider_64 ?_
        refine wX5_consider_65 (by rw [q_up_n (by omega), q_up_n (by omega)]; exact hR.1) ?_
        refine wX5_consider_68 ?_
        refine wX5_consider_69 (by rw [q_up_n (by omega), q_up_n (by omega)]; exact hR.1) ?_
        refine wX5_consider_72 ?_
        refine wX5_consider_73 hB2.1 ?_
        refine wX5_consider_76 ?_
        refine wX5_consider_77 (t := 4) rfl hB2.2.1 rfl hi (by decide) (if_pos hi) ?_
        refine wX5_consider_78 ?_
        refine wX5_consider_79 hB2.1 ?_
        refine wX5_consider_82 (hB2.P hi).1 (mX3_wholeReleaseCost (hB2.P hi) ?_)
        refine wX5_consider_85 (by rw [q_up_n (by omega), q_up_n (by omega)]; exact hg3) rfl hs (by decide) ?_
        refine wX5_consider_86 ?_
        refine wX5_consider_87 ?_
        refine wX5_consider_88 (by rw [q_up_n (by omega), q_up_n (by omega), q_up_n (by omega)]; exact hR.1) ?_
        refine wX5_consider_91 ?_
        refine wX5_consider_92 ?_
        refine wX5_consider_93 (by rw [q_up_n (by omega), q_up_n (by omega), q_up_n (by omega)]; exact hR.1) ?_
        refine wX5_consider_96 ?_
        refine wX5_consider_99 ?_
        first
          | (refine q_ls (by rw [nI_1]) (ih _ ⟨?_, ho.trans ((ho2.trans (q_out.up (by omega) (by omega))).trans (q_out.up (by omega) (by omega)))⟩)
             rw [rl_con, hr, if_pos ⟨q_b1 c28, hs⟩]
             refine ⟨by rw [nI_1]; exact q_up_s, ?_, ?_, ?_⟩
             · refine (((isA.w fun k hk => ?_).n (by omega)).n (by omega)).n (by omega)
               show upd g1 _ _ k = upd r.1 _ _ k
               unfold upd; split
               · rfl
               · exact eg1 k hk
             · refine ((isA.w fun k hk => ?_).n (by omega)).n (by omega)
               show upd g2 _ _ k = upd r.2.1 _ _ k
               unfold upd; split
               · rfl
               · exact eg2 k hk
             · refine (isA.w fun k hk => ?_).n (by omega)
               show upd g3 _ _ k = upd r.2.2.1 _ _ k
               unfold upd; split
               · rfl
               · exact eg3 k hk)
          | (refine q_ls (by rw [nI_1]) (ih _ ⟨?_, ho⟩)
             rw [rl_con, hr, if_neg (by rw [q_b0 c28]; simp)]
             exact hR)
end CX5

/-! SalaryCapLedgerModel: sets, moves, trades -/
section CX9c
variable {V : q_En} {h : q_H} {z : Option Nat} {Kx : q_KX}
/-- a bit, as BitVec tells it -/
theorem q_bitv {s : Int32} {k : Nat} (hk : k < 32) : q_bit s k = s.toBitVec.getLsbD k := by
  have e : (nI k &&& 31).toBitVec.smod 32 = BitVec.ofNat 32 k := (by decide : ∀ k, k < 32 → (nI k &&& 31).toBitVec.smod 32 = BitVec.ofNat 32 k) k hk
  have e2 : ((s >>> (nI k &&& 31)) &&& 1 = 1) ↔ s.toBitVec.getLsbD k = true := by
    rw [← Int32.toBitVec_inj, Int32.toBitVec_and, Int32.toBitVec_shiftRight, e]
    have e3 : (s.toBitVec.sshiftRight' (BitVec.ofNat 32 k)).getLsbD 0 = s.toBitVec.getLsbD k := by
      rw [BitVec.sshiftRight', BitVec.getLsbD_sshiftRight, BitVec.toNat_ofNat, Nat.mod_eq_of_lt (by omega)]
      simp [hk]
    rw [← e3]
    constructor
    · intro q
      have := congrArg (fun x => BitVec.getLsbD x 0) q
      simpa using this
    · intro q
      apply BitVec.eq_of_getLsbD_eq
      intro i hi
      rw [BitVec.getLsbD_and]
      by_cases e0 : i = 0
      · subst e0; rw [q]; try rfl
      · have : (Int32.toBitVec 1).getLsbD i = false := (by decide : ∀ i, i < 32 → ¬ i = 0 → (Int32.toBitVec 1).getLsbD i = false) i hi e0
        rw [this, Bool.and_false]
  unfold q_bit
  by_cases q : s.toBitVec.getLsbD k = true
  · rw [decide_eq_true (e2.mpr q), q]
  · rw [decide_eq_false (fun p => q (e2.mp p))]
    cases hq : s.toBitVec.getLsbD k
    · rfl
    · exact absurd hq q
theorem q_shv {k : Nat} (hk : k < 32) {i : Nat} (hi : i < 32) : ((1 : Int32) <<< (nI k &&& 31)).toBitVec.getLsbD i = decide (i = k) := by
  have h1 : (1 : Int32) <<< (nI k &&& 31) = Int32.ofBitVec (1#32 <<< k) := (by decide +kernel : ∀ k, k < 32 → (1 : Int32) <<< (nI k &&& 31) = Int32.ofBitVec (1#32 <<< k)) k hk
  rw [h1, Int32.toBitVec_ofBitVec]
  exact (by decide +kernel : ∀ k, k < 32 → ∀ i, i < 32 → (1#32 <<< k).getLsbD i = decide (i = k)) k hk i hi
/-- who is on a team's list -/
theorem r_set_v {r : Nat → Int64} {t n i : Nat} (hn : n ≤ 32) (hi : i < 32) : (r_set r t n).toBitVec.getLsbD i = (decide (i < n) && decide (r_op r i 0 = nI t)) := by
  induction n with
  | zero => rw [r_set]; simp
  | succ n ih =>
    rw [r_set, Int32.toBitVec_or, BitVec.getLsbD_or, ih (by omega)]
    by_cases q : r_op r n 0 = nI t
    · rw [if_pos q, q_shv (by omega) hi]
      by_cases e : i = n
      · subst e; simp [q]
      · have e2 : (decide (i < n + 1)) = decide (i < n) := decide_eq_decide.mpr (by omega)
        rw [e2, decide_eq_false e, Bool.or_false]
    · rw [if_neg q]
      by_cases e : i = n
      · subst e; simp [q]
      · have e2 : (decide (i < n + 1)) = decide (i < n) := decide_eq_decide.mpr (by omega)
        rw [e2]; simp
theorem q_sub_v {s u : Int32} {i : Nat} (hs : s &&& (u ^^^ -1) = 0) (hi : i < 32) (hb : q_bit s i = true) : u.toBitVec.getLsbD i = true := by
  rw [q_bitv hi] at hb
  have h1 := congrArg (fun x => (Int32.toBitVec x).getLsbD i) hs
  simp only [Int32.toBitVec_and, Int32.toBitVec_xor, BitVec.getLsbD_and, BitVec.getLsbD_xor, hb] at h1
  have h2 : (Int32.toBitVec (-1)).getLsbD i = true := (by decide : ∀ i, i < 32 → (Int32.toBitVec (-1)).getLsbD i = true) i hi
  have h3 : (Int32.toBitVec 0).getLsbD i = false := by simp
  rw [h2, h3] at h1
  cases q : u.toBitVec.getLsbD i
  · rw [q] at h1; cases h1
  · rfl
theorem q_sub_r {s : Int32} {r : Nat → Int64} {t n i : Nat} (hn : n ≤ 24) (hs : s &&& (r_set r t n ^^^ -1) = 0) (hi : i < 32) (hb : q_bit s i = true) : i < n ∧ r_op r i 0 = nI t := by
  have := q_sub_v hs hi hb
  rw [r_set_v (by omega) hi, Bool.and_eq_true] at this
  exact ⟨of_decide_eq_true this.1, of_decide_eq_true this.2⟩
def r_sls (r : Nat → Int64) (s : Int32) (n : Nat) : Int32 := q_ac 0 (fun p => if q_bit s p = true then r_sl r p 0 else 0) n
theorem r_sls_s {r : Nat → Int64} {s : Int32} {k : Nat} : r_sls r s (k + 1) = r_sls r s k + (if q_bit s k = true then r_sl r k 0 else 0) := rfl
def r_mvp (r : Nat → Int64) (w f t k : Nat) : Nat → Int64 := rp (rp (rp (ra r f (3 + w) (r_sf r k).toInt64) k 9 0) k 0 (nI t)) k 1 (nI t)
def r_mv (r : Nat → Int64) (w : Nat) (s : Int32) (f t : Nat) : Nat → Nat → Int64
  | 0 => r
  | k + 1 => if q_bit s k = true then r_mvp (r_mv r w s f t k) w f t k else r_mv r w s f t k
theorem r_mvp_op {r : Nat → Int64} {w f t k q u : Nat} (hq : q < 24) (hu : u < 10) : r_op (r_mvp r w f t k) q u = if q = k ∧ (u = 0 ∨ u = 1) then nI t else if q = k ∧ u = 9 then 0 else r_op r q u := by
  unfold r_mvp
  rw [rp_op (by decide) hu, rp_op (by decide) hu, rp_op (by decide) hu, ra_op hq hu]
  by_cases e : q = k <;> by_cases e1 : u = 1 <;> by_cases e2 : u = 0 <;> simp [e, e1, e2]
theorem r_mvp_nw {r : Nat → Int64} {w f t k : Nat} : r_nw (r_mvp r w f t k) = r_nw r := by unfold r_mvp; rw [rp_nw, rp_nw, rp_nw, ra_nw]
theorem r_mvp_oo {r : Nat → Int64} {w f t k u : Nat} (hu : u < 5) : r_oo (r_mvp r w f t k) u = r_oo r u := by unfold r_mvp; rw [rp_oo hu, rp_oo hu, rp_oo hu, ra_oo hu]
theorem r_mv_nw {r : Nat → Int64} {w f t : Nat} {s : Int32} (k : Nat) : r_nw (r_mv r w s f t k) = r_nw r := by
  induction k with
  | zero => rfl
  | succ k ih => rw [r_mv]; split
                 · rw [r_mvp_nw, ih]
                 · exact ih
theorem r_mv_oo {r : Nat → Int64} {w f t u : Nat} {s : Int32} (hu : u < 5) (k : Nat) : r_oo (r_mv r w s f t k) u = r_oo r u := by
  induction k with
  | zero => rfl
  | succ k ih => rw [r_mv]; split
                 · rw [r_mvp_oo hu, ih]
                 · exact ih
/-- a player's place behind the moves -/
theorem r_mv_op {r : Nat → Int64} {w f t q u : Nat} {s : Int32} (hq : q < 24) (hu : u < 10) (k : Nat) : r_op (r_mv r w s f t k) q u = if q < k ∧ q_bit s q = true then (if u = 0 ∨ u = 1 then nI t else if u = 9 then 0 else r_op r q u) else r_op r q u := by
  induction k with
  | zero => rw [r_mv, if_neg (by omega)]
  | succ k ih =>
    rw [r_mv]
    by_cases b : q_bit s k = true
    · rw [if_pos b, r_mvp_op hq hu, ih]
      by_cases e : q = k
      · subst e; simp [b]
      · have e2 : (q < k + 1) = (q < k) := propext (by omega)
        simp [e, e2]
    · rw [if_neg b, ih]
      by_cases e : q = k
      · subst e; simp [b]
      · have e2 : (q < k + 1) = (q < k) := propext (by omega)
        simp [e2]
theorem okM_row {M : q_Mo} {r r' : Nat → Int64} {w nt np nb : Nat} (hO : okM (mLr M 1 r) w nt np nb) (h1 : r_nw r' = r_nw r) (h2 : r_oo r' 2 = r_oo r 2) (h3 : ∀ p, p < 24 → r_has r' p = true → ¬ r_op r' p 5 = 0) : okM (mLr M 1 r') w nt np nb :=
  ⟨⟨hO.1.1, h1.trans hO.1.2⟩, hO.2.1, hO.2.2.1, hO.2.2.2.1, (show ¬ r_oo r' 2 = 0 by rw [h2]; exact hO.2.2.2.2.1), h3⟩
theorem okM_mv {M : q_Mo} {r : Nat → Int64} {w nt np nb f t k : Nat} {s : Int32} (hO : okM (mLr M 1 r) w nt np nb) (hs : ∀ p, p < 24 → q_bit s p = true → ¬ r_op r p 5 = 0) : okM (mLr M 1 (r_mv r w s f t k)) w nt np nb := by
  refine okM_row hO (r_mv_nw k) (r_mv_oo (by decide) k) (fun p hp hh => ?_)
  rw [r_mv_op hp (by decide)]
  have h0 : (if p < k ∧ q_bit s p = true then (if (5 = 0 ∨ 5 = 1) then nI t else if 5 = 9 then 0 else r_op r p 5) else r_op r p 5) = r_op r p 5 := by split <;> rfl
  rw [h0]
  by_cases b : q_bit s p = true
  · exact hs p hp b
  · refine hO.2.2.2.2.2 p hp ?_
    have h1 := of_decide_eq_true hh
    rw [r_mv_op hp (by decide), if_neg (fun z => b z.2)] at h1
    exact decide_eq_true h1
theorem r_mv_5 {r : Nat → Int64} {w f t k p : Nat} {s : Int32} (hp : p < 24) : r_op (r_mv r w s f t k) p 5 = r_op r p 5 := by
  rw [r_mv_op hp (by decide)]; split <;> rfl
theorem mX9_salariesOf {a : Nat} {M : q_Mo} {s : Int32} {w nt np nb : Nat} {P : Int32 → q_H → Option Nat → Prop} (hM : isM h a M) (hO : okM M w nt np nb) (hk : P (r_sls (m_r M) s np) h z) : QMi V iX9_salariesOf [.ref a, .int s] h z P Kx := by
  have hnp := hO.2.2.1.1
  have hnn := hO.2.2.1.2
  refine eX9_salariesOf ?_
  refine wX9_salariesOf_0 ?_
  refine wX9_salariesOf_1 ?_
  refine wX9_salariesOf_2 ?_
  refine wX9_salariesOf_3 ?_
  refine q_for (P := fun k => QW V iX9_salariesOf 4 [some (.ref a), some (.int s), some (.int (r_sls (m_r M) s k)), some (.int (nI k))] [] h z 0 0 (q_Ki P) Kx) np ?_ (fun k hkn ih => ?_)
  · refine wX9_salariesOf_4 ?_
    refine wX9_salariesOf_5 ?_
    refine wX9_salariesOf_6 hM.c ?_
    refine wX9_salariesOf_9 (fun c9 => ?_) (fun c9 => absurd (nI_leq hnn (Nat.le_refl _) (by omega)) c9)
    refine wX9_salariesOf_39 ?_
    refine wX9_salariesOf_40  ?_
    exact hk
  · refine wX9_salariesOf_4 ?_
    refine wX9_salariesOf_5 ?_
    refine wX9_salariesOf_6 hM.c ?_
    refine wX9_salariesOf_9 (fun c9 => absurd c9 (nI_geq hnn hkn (by omega))) (fun c9 => ?_)
    refine wX9_salariesOf_12 ?_
    refine wX9_salariesOf_13 ?_
    refine wX9_salariesOf_14 ?_
    refine wX9_salariesOf_15 (mX9_has ?_)
    refine wX9_salariesOf_18 (fun c18 => ?_) (fun c18 => ?_)
    · refine wX9_salariesOf_30 ?_
      refine wX9_salariesOf_31 ?_
      refine wX9_salariesOf_32 ?_
      refine wX9_salariesOf_33 ?_
      refine wX9_salariesOf_36 ?_
      refine q_ls ?_ ih
      rw [nI_1]
      first
        | (have q9 := q_b1 c18; rw [r_sls_s, if_pos q9]; try rfl)
        | (have q9 := q_b0 c18; rw [r_sls_s, if_neg (by rw [q9]; decide)]; try rfl)
    · refine wX9_salariesOf_21 ?_
      refine wX9_salariesOf_22 ?_
      refine wX9_salariesOf_23 ?_
      refine wX9_salariesOf_24 hM.c (mX9_salaryIn hM (show k < 24 by omega) ?_)
      refine wX9_salariesOf_27 ?_
      refine wX9_salariesOf_31 ?_
      refine wX9_salariesOf_32 ?_
      refine wX9_salariesOf_33 ?_
      refine wX9_salariesOf_36 ?_
      refine q_ls ?_ ih
      rw [nI_1]
      first
        | (have q9 := q_b1 c18; rw [r_sls_s, if_pos q9]; try rfl)
        | (have q9 := q_b0 c18; rw [r_sls_s, if_neg (by rw [q9]; decide)]; try rfl)
theorem mX9_moves {a : Nat} {M : q_Mo} {r : Nat → Int64} {s : Int32} {f t : Nat} {w nt np nb : Nat} {P : q_H → Option Nat → Prop} (hM : isM h a (mLr M 1 r)) (hO : okM (mLr M 1 r) w nt np nb) (hf : f < 4) (hs : ∀ p, p < 24 → q_bit s p = true → ¬ r_op r p 5 = 0) (hk : ∀ h2, isM h2 a (mLr M 1 (r_mv r w s f t np)) → q_out a 13 h h2 → P h2 z) : QMv V iX9_moves [.ref a, .int s, .int (nI f), .int (nI t)] h z P Kx := by
  have hnp := hO.2.2.1.1
  have hnn := hO.2.2.1.2
  have hw := hO.1.2
  have hw15 := hO.1.1
  have ho : q_out a 13 h h := q_out.refl
  refine eX9_moves ?_
  refine wX9_moves_0 ?_
  refine wX9_moves_1 ?_
  refine q_for (P := fun k => ∀ hh, isM hh a (mLr M 1 (r_mv r w s f t k)) → q_out a 13 h hh → QW V iX9_moves 3 [some (.ref a), some (.int s), some (.int (nI f)), some (.int (nI t)), some (.int (nI k))] [] hh z 0 0 (q_Kv P) Kx) np ?_ ?_ _ hM ho
  · intro hh hM ho
    refine wX9_moves_3 ?_
    refine wX9_moves_5 ?_
    refine wX9_moves_6 hM.c ?_
    refine wX9_moves_9 (fun c9 => ?_) (fun c9 => absurd (nI_leq hnn (Nat.le_refl _) (by omega)) c9)
    refine wX9_moves_70  ?_
    exact hk _ hM ho
  · intro k hkn ih hh hM ho
    refine wX9_moves_3 ?_
    refine wX9_moves_5 ?_
    refine wX9_moves_6 hM.c ?_
    refine wX9_moves_9 (fun c9 => absurd c9 (nI_geq hnn hkn (by omega))) (fun c9 => ?_)
    refine wX9_moves_12 ?_
    refine wX9_moves_13 ?_
    refine wX9_moves_15 (mX9_has ?_)
    refine wX9_moves_18 (fun c18 => ?_) (fun c18 => ?_)
    · refine wX9_moves_64 ?_
      refine wX9_moves_67 ?_
      first
        | (have q9 := q_b1 c18
           refine q_ls ?_ (ih _ (hM.e (congrArg (mLr M 1) (show _ = r_mv r w s f t (k + 1) by rw [r_mv, if_pos q9]; try rfl))) ho)
           rw [nI_1])
        | (have q9 := q_b0 c18
           refine q_ls ?_ (ih _ (hM.e (congrArg (mLr M 1) (show _ = r_mv r w s f t (k + 1) by rw [r_mv, if_neg (by rw [q9]; decide)]))) ho)
           rw [nI_1])
    · refine wX9_moves_21 ?_
      refine wX9_moves_22 ?_
      refine wX9_moves_23 ?_
      refine wX9_moves_24 ?_
      refine wX9_moves_25 hM.c (mX9_now hM ?_)
      rw [show r_nw (m_r (mLr M 1 (r_mv r w s f t k))) = nI w from (r_mv_nw k).trans hw]
      refine wX9_moves_28 ?_
      rw [show (3 : Int32) + nI w = nI (3 + w) from nI_add 3 w]
      refine wX9_moves_29 ?_
      refine wX9_moves_30 ?_
      refine wX9_moves_32 hM.c (mX9_sharesFrom hM (show k < 24 by omega) (fun _ => (show ¬ r_op (r_mv r w s f t k) k 5 = 0 by rw [r_mv_5 (by omega)]; exact hs k (by omega) (q_b1 c18))) ?_)
      refine wX9_moves_35 ?_
      refine wX9_moves_36 hM.c (mX9_addTeam (r := r_mv r w s f t k) (w := 3 + w) hM hf (by omega) (fun h2 hM ho2 => ?_))
      have ho := ho.trans ho2
      refine wX9_moves_39 ?_
      refine wX9_moves_40 ?_
      refine wX9_moves_42 ?_
      refine wX9_moves_44 ?_
      refine wX9_moves_45 hM.c (mX9_putPlayer (w := 9) hM (show k < 24 by omega) (by decide) (fun h2 hM ho2 => ?_))
      have ho := ho.trans ho2
      refine wX9_moves_48 ?_
      refine wX9_moves_49 ?_
      refine wX9_moves_51 ?_
      refine wX9_moves_52 ?_
      refine wX9_moves_53 hM.c (mX9_putPlayer (w := 0) hM (show k < 24 by omega) (by decide) (fun h2 hM ho2 => ?_))
      have ho := ho.trans ho2
      refine wX9_moves_56 ?_
      refine wX9_moves_57 ?_
      refine wX9_moves_59 ?_
      refine wX9_moves_60 ?_
      refine wX9_moves_61 hM.c (mX9_putPlayer (w := 1) hM (show k < 24 by omega) (by decide) (fun h2 hM ho2 => ?_))
      have ho := ho.trans ho2
      refine wX9_moves_64 ?_
      refine wX9_moves_67 ?_
      first
        | (have q9 := q_b1 c18
           refine q_ls ?_ (ih _ (hM.e (congrArg (mLr M 1) (show _ = r_mv r w s f t (k + 1) by rw [r_mv, if_pos q9]; try rfl))) ho)
           rw [nI_1])
        | (have q9 := q_b0 c18
           refine q_ls ?_ (ih _ (hM.e (congrArg (mLr M 1) (show _ = r_mv r w s f t (k + 1) by rw [r_mv, if_neg (by rw [q9]; decide)]))) ho)
           rw [nI_1])
def r_lim (ln bf go : Int32) : Int64 := if bf ≤ ln then go.toInt64 * 125 / 100 + 100 else go.toInt64 * 110 / 100
def r_mt (ch cp ln bf go co : Int32) : Bool := decide (ch ≤ cp ∨ ¬ r_lim ln bf go < co.toInt64)
theorem mX9_matches {a : Nat} {M : q_Mo} {t : Nat} {bf go co : Int32} {w nt np nb : Nat} {P : Int32 → q_H → Option Nat → Prop} (hM : isM h a M) (hO : okM M w nt np nb) (ht : t < 4) (hk : P (q_b (r_mt (r_ch (m_r M) np w t 0) (r_cap M.1 w 0) (r_ln M.1 w 0) bf go co)) h z) : QMi V iX9_matches [.ref a, .int (nI t), .int bf, .int go, .int co] h z P Kx := by
  have hj : ∀ lim : Int64, lim = r_lim (r_ln M.1 w 0) bf go → QW V iX9_matches 36 [some (.ref a), some (.int (nI t)), some (.int bf), some (.int go), some (.int co), none, none] [.long lim] h z 0 0 (q_Ki P) Kx := by
    intro lim hlim
    subst hlim
    refine wX9_matches_36 ?_
    refine wX9_matches_38 ?_
    refine wX9_matches_39 ?_
    refine wX9_matches_40 ?_
    refine wX9_matches_41 hM.c (mX9_chargeOf (x := 0) hM hO ht (by decide) ?_)
    refine wX9_matches_44 ?_
    refine wX9_matches_45 ?_
    refine wX9_matches_46 hM.c (mX9_capIn (x := 0) hM hO.1.2 (by have := hO.1.1; omega) (by decide) ?_)
    refine wX9_matches_49 (fun c49 => ?_) (fun c49 => ?_)
    · refine wX9_matches_61 ?_
      refine wX9_matches_62 ?_
      refine wX9_matches_66  ?_
      first
        | (have q9 : r_ch (m_r M) np w t 0 ≤ r_cap M.1 w 0 := c49; exact q_cv (by rw [r_mt, decide_eq_true (Or.inl q9)]; try rfl) hk)
        | (have q9 := c57; have q8 : ¬ r_ch (m_r M) np w t 0 ≤ r_cap M.1 w 0 := c49
           first
             | (have q7 : r_lim (r_ln M.1 w 0) bf go < co.toInt64 := q9; exact q_cv (by rw [r_mt, decide_eq_false (fun q => q.elim q8 (fun q => q q7))]; try rfl) hk)
             | (have q7 : ¬ r_lim (r_ln M.1 w 0) bf go < co.toInt64 := q9; exact q_cv (by rw [r_mt, decide_eq_true (Or.inr q7)]; try rfl) hk))
    · refine wX9_matches_52 ?_
      refine wX9_matches_54 ?_
      refine wX9_matches_55 ?_
      refine wX9_matches_57 (fun c57 => ?_) (fun c57 => ?_)
      · refine wX9_matches_65 ?_
        refine wX9_matches_66  ?_
        first
          | (have q9 : r_ch (m_r M) np w t 0 ≤ r_cap M.1 w 0 := c49; exact q_cv (by rw [r_mt, decide_eq_true (Or.inl q9)]; try rfl) hk)
          | (have q9 := c57; have q8 : ¬ r_ch (m_r M) np w t 0 ≤ r_cap M.1 w 0 := c49
             first
               | (have q7 : r_lim (r_ln M.1 w 0) bf go < co.toInt64 := q9; exact q_cv (by rw [r_mt, decide_eq_false (fun q => q.elim q8 (fun q => q q7))]; try rfl) hk)
               | (have q7 : ¬ r_lim (r_ln M.1 w 0) bf go < co.toInt64 := q9; exact q_cv (by rw [r_mt, decide_eq_true (Or.inr q7)]; try rfl) hk))
      · refine wX9_matches_61 ?_
        refine wX9_matches_62 ?_
        refine wX9_matches_66  ?_
        first
          | (have q9 : r_ch (m_r M) np w t 0 ≤ r_cap M.1 w 0 := c49; exact q_cv (by rw [r_mt, decide_eq_true (Or.inl q9)]; try rfl) hk)
          | (have q9 := c57; have q8 : ¬ r_ch (m_r M) np w t 0 ≤ r_cap M.1 w 0 := c49
             first
               | (have q7 : r_lim (r_ln M.1 w 0) bf go < co.toInt64 := q9; exact q_cv (by rw [r_mt, decide_eq_false (fun q => q.elim q8 (fun q => q q7))]; try rfl) hk)
               | (have q7 : ¬ r_lim (r_ln M.1 w 0) bf go < co.toInt64 := q9; exact q_cv (by rw [r_mt, decide_eq_true (Or.inr q7)]; try rfl) hk))
  refine eX9_matches ?_
  refine wX9_matches_0 ?_
  refine wX9_matches_1 ?_
  refine wX9_matches_2 ?_
  refine wX9_matches_3 hM.c (mX9_lineIn (x := 0) hM hO.1.2 (by have := hO.1.1; omega) (by decide) ?_)
  refine wX9_matches_6 (fun c6 => ?_) (fun c6 => ?_)
  · refine wX9_matches_26 ?_
    refine wX9_matches_27 ?_
    refine wX9_matches_28 ?_
    refine wX9_matches_31 ?_
    refine wX9_matches_32 ?_
    refine wX9_matches_35 (by decide) ?_
    first
      | (have q9 : bf ≤ r_ln M.1 w 0 := Int32.not_lt.mp c6; exact hj _ (by rw [r_lim, if_pos q9]))
      | (have q9 : ¬ bf ≤ r_ln M.1 w 0 := Int32.not_le.mpr c6; exact hj _ (by rw [r_lim, if_neg q9]))
  · refine wX9_matches_9 ?_
    refine wX9_matches_10 ?_
    refine wX9_matches_11 ?_
    refine wX9_matches_14 ?_
    refine wX9_matches_15 ?_
    refine wX9_matches_18 (by decide) ?_
    refine wX9_matches_19 ?_
    refine wX9_matches_22 ?_
    refine wX9_matches_23 ?_
    first
      | (have q9 : bf ≤ r_ln M.1 w 0 := Int32.not_lt.mp c6; exact hj _ (by rw [r_lim, if_pos q9]))
      | (have q9 : ¬ bf ≤ r_ln M.1 w 0 := Int32.not_le.mpr c6; exact hj _ (by rw [r_lim, if_neg q9]))
def mo_most (M : q_Mo) : Int32 := ((1 : Int32) <<< (M.1 6 &&& 31)) - 1
def mgT (M : q_Mo) (t : Int32) : Bool := rgL t.toInt64 0 (M.1 5 - 1).toInt64
def mgP (M : q_Mo) (p : Int32) : Bool := rgL p.toInt64 0 (M.1 6 - 1).toInt64
def mgA (x : Int32) : Bool := rgL x.toInt64 0 11
def mg2 (M : q_Mo) (t u : Int32) : Bool := mgT M t && (mgT M u && !decide (t = u))
def mgTr (M : q_Mo) (t s u v : Int32) : Bool := mgT M t && (mgT M u && (!decide (t = u) && (rgL s.toInt64 0 (mo_most M).toInt64 && rgL v.toInt64 0 (mo_most M).toInt64)))
def mgS (M : q_Mo) (t p x : Int32) : Bool := mgT M t && (mgP M p && rgL x.toInt64 0 3)
theorem mX9_isTrade {a : Nat} {M : q_Mo} {t s u v : Int32} {P : Int32 → q_H → Option Nat → Prop} (hM : isM h a M) (hk : P (q_b (mgTr M t s u v)) h z) : QMi V iX9_isTrade [.ref a, .int t, .int s, .int u, .int v] h z P Kx := by
  refine eX9_isTrade ?_
  refine wX9_isTrade_0 ?_
  refine wX9_isTrade_1 ?_
  refine wX9_isTrade_2 hM.c ?_
  refine wX9_isTrade_5 ?_
  refine wX9_isTrade_6 ?_
  refine wX9_isTrade_7 ?_
  refine wX9_isTrade_8 ?_
  refine wX9_isTrade_10 ?_
  refine wX9_isTrade_11 ?_
  refine wX9_isTrade_12 hM.c (mX9_isTeam hM ?_)
  refine wX9_isTrade_15 (fun c15 => ?_) (fun c15 => ?_)
  · refine wX9_isTrade_60 ?_
    refine wX9_isTrade_61  ?_
    first
      | (have q5 : rgL v.toInt64 0 (mo_most M).toInt64 = true := q_b1 c53; have q4 : rgL s.toInt64 0 (mo_most M).toInt64 = true := q_b1 c40; have q1 : mgT M t = true := q_b1 c15; have q2 : mgT M u = true := q_b1 c23; exact q_cv (by simp [mgTr, q1, q2, q4, q5, c28, q_b]) hk)
      | (have q5 : rgL v.toInt64 0 (mo_most M).toInt64 = false := q_b0 c53; exact q_cv (by simp [mgTr, q5, q_b]) hk)
      | (have q5 : rgL s.toInt64 0 (mo_most M).toInt64 = false := q_b0 c40; exact q_cv (by simp [mgTr, q5, q_b]) hk)
      | (have q5 := c28; exact q_cv (by simp [mgTr, q5, q_b]) hk)
      | (have q5 : mgT M u = false := q_b0 c23; exact q_cv (by simp [mgTr, q5, q_b]) hk)
      | (have q5 : mgT M t = false := q_b0 c15; exact q_cv (by simp [mgTr, q5, q_b]) hk)
  · refine wX9_isTrade_18 ?_
    refine wX9_isTrade_19 ?_
    refine wX9_isTrade_20 hM.c (mX9_isTeam hM ?_)
    refine wX9_isTrade_23 (fun c23 => ?_) (fun c23 => ?_)
    · refine wX9_isTrade_60 ?_
      refine wX9_isTrade_61  ?_
      first
        | (have q5 : rgL v.toInt64 0 (mo_most M).toInt64 = true := q_b1 c53; have q4 : rgL s.toInt64 0 (mo_most M).toInt64 = true := q_b1 c40; have q1 : mgT M t = true := q_b1 c15; have q2 : mgT M u = true := q_b1 c23; exact q_cv (by simp [mgTr, q1, q2, q4, q5, c28, q_b]) hk)
        | (have q5 : rgL v.toInt64 0 (mo_most M).toInt64 = false := q_b0 c53; exact q_cv (by simp [mgTr, q5, q_b]) hk)
        | (have q5 : rgL s.toInt64 0 (mo_most M).toInt64 = false := q_b0 c40; exact q_cv (by simp [mgTr, q5, q_b]) hk)
        | (have q5 := c28; exact q_cv (by simp [mgTr, q5, q_b]) hk)
        | (have q5 : mgT M u = false := q_b0 c23; exact q_cv (by simp [mgTr, q5, q_b]) hk)
        | (have q5 : mgT M t = false := q_b0 c15; exact q_cv (by simp [mgTr, q5, q_b]) hk)
    · refine wX9_isTrade_26 ?_
      refine wX9_isTrade_27 ?_
      refine wX9_isTrade_28 (fun c28 => ?_) (fun c28 => ?_)
      · refine wX9_isTrade_60 ?_
        refine wX9_isTrade_61  ?_
        first
          | (have q5 : rgL v.toInt64 0 (mo_most M).toInt64 = true := q_b1 c53; have q4 : rgL s.toInt64 0 (mo_most M).toInt64 = true := q_b1 c40; have q1 : mgT M t = true := q_b1 c15; have q2 : mgT M u = true := q_b1 c23; exact q_cv (by simp [mgTr, q1, q2, q4, q5, c28, q_b]) hk)
          | (have q5 : rgL v.toInt64 0 (mo_most M).toInt64 = false := q_b0 c53; exact q_cv (by simp [mgTr, q5, q_b]) hk)
          | (have q5 : rgL s.toInt64 0 (mo_most M).toInt64 = false := q_b0 c40; exact q_cv (by simp [mgTr, q5, q_b]) hk)
          | (have q5 := c28; exact q_cv (by simp [mgTr, q5, q_b]) hk)
          | (have q5 : mgT M u = false := q_b0 c23; exact q_cv (by simp [mgTr, q5, q_b]) hk)
          | (have q5 : mgT M t = false := q_b0 c15; exact q_cv (by simp [mgTr, q5, q_b]) hk)
      · refine wX9_isTrade_31 ?_
        refine wX9_isTrade_32 ?_
        refine wX9_isTrade_33 ?_
        refine wX9_isTrade_34 ?_
        refine wX9_isTrade_36 ?_
        refine wX9_isTrade_37 (mX9_isIn ?_)
        refine wX9_isTrade_40 (fun c40 => ?_) (fun c40 => ?_)
        · refine wX9_isTrade_60 ?_
          refine wX9_isTrade_61  ?_
          first
            | (have q5 : rgL v.toInt64 0 (mo_most M).toInt64 = true := q_b1 c53; have q4 : rgL s.toInt64 0 (mo_most M).toInt64 = true := q_b1 c40; have q1 : mgT M t = true := q_b1 c15; have q2 : mgT M u = true := q_b1 c23; exact q_cv (by simp [mgTr, q1, q2, q4, q5, c28, q_b]) hk)
            | (have q5 : rgL v.toInt64 0 (mo_most M).toInt64 = false := q_b0 c53; exact q_cv (by simp [mgTr, q5, q_b]) hk)
            | (have q5 : rgL s.toInt64 0 (mo_most M).toInt64 = false := q_b0 c40; exact q_cv (by simp [mgTr, q5, q_b]) hk)
            | (have q5 := c28; exact q_cv (by simp [mgTr, q5, q_b]) hk)
            | (have q5 : mgT M u = false := q_b0 c23; exact q_cv (by simp [mgTr, q5, q_b]) hk)
            | (have q5 : mgT M t = false := q_b0 c15; exact q_cv (by simp [mgTr, q5, q_b]) hk)
        · refine wX9_isTrade_43 ?_
          refine wX9_isTrade_45 ?_
          refine wX9_isTrade_46 ?_
          refine wX9_isTrade_47 ?_
          refine wX9_isTrade_49 ?_
          refine wX9_isTrade_50 (mX9_isIn ?_)
          refine wX9_isTrade_53 (fun c53 => ?_) (fun c53 => ?_)
          · refine wX9_isTrade_60 ?_
            refine wX9_isTrade_61  ?_
            first
              | (have q5 : rgL v.toInt64 0 (mo_most M).toInt64 = true := q_b1 c53; have q4 : rgL s.toInt64 0 (mo_most M).toInt64 = true := q_b1 c40; have q1 : mgT M t = true := q_b1 c15; have q2 : mgT M u = true := q_b1 c23; exact q_cv (by simp [mgTr, q1, q2, q4, q5, c28, q_b]) hk)
              | (have q5 : rgL v.toInt64 0 (mo_most M).toInt64 = false := q_b0 c53; exact q_cv (by simp [mgTr, q5, q_b]) hk)
              | (have q5 : rgL s.toInt64 0 (mo_most M).toInt64 = false := q_b0 c40; exact q_cv (by simp [mgTr, q5, q_b]) hk)
              | (have q5 := c28; exact q_cv (by simp [mgTr, q5, q_b]) hk)
              | (have q5 : mgT M u = false := q_b0 c23; exact q_cv (by simp [mgTr, q5, q_b]) hk)
              | (have q5 : mgT M t = false := q_b0 c15; exact q_cv (by simp [mgTr, q5, q_b]) hk)
          · refine wX9_isTrade_56 ?_
            refine wX9_isTrade_57 ?_
            refine wX9_isTrade_61  ?_
            first
              | (have q5 : rgL v.toInt64 0 (mo_most M).toInt64 = true := q_b1 c53; have q4 : rgL s.toInt64 0 (mo_most M).toInt64 = true := q_b1 c40; have q1 : mgT M t = true := q_b1 c15; have q2 : mgT M u = true := q_b1 c23; exact q_cv (by simp [mgTr, q1, q2, q4, q5, c28, q_b]) hk)
              | (have q5 : rgL v.toInt64 0 (mo_most M).toInt64 = false := q_b0 c53; exact q_cv (by simp [mgTr, q5, q_b]) hk)
              | (have q5 : rgL s.toInt64 0 (mo_most M).toInt64 = false := q_b0 c40; exact q_cv (by simp [mgTr, q5, q_b]) hk)
              | (have q5 := c28; exact q_cv (by simp [mgTr, q5, q_b]) hk)
              | (have q5 : mgT M u = false := q_b0 c23; exact q_cv (by simp [mgTr, q5, q_b]) hk)
              | (have q5 : mgT M t = false := q_b0 c15; exact q_cv (by simp [mgTr, q5, q_b]) hk)
theorem mX9_areTwo {a : Nat} {M : q_Mo} {t u : Int32} {P : Int32 → q_H → Option Nat → Prop} (hM : isM h a M) (hk : P (q_b (mg2 M t u)) h z) : QMi V iX9_areTwo [.ref a, .int t, .int u] h z P Kx := by
  refine eX9_areTwo ?_
  refine wX9_areTwo_0 ?_
  refine wX9_areTwo_1 ?_
  refine wX9_areTwo_2 hM.c (mX9_isTeam hM ?_)
  refine wX9_areTwo_5 (fun c5 => ?_) (fun c5 => ?_)
  · refine wX9_areTwo_25 ?_
    refine wX9_areTwo_26  ?_
    first
      | (have q2 : mgT M u = true := q_b1 c13; have q1 : mgT M t = true := q_b1 c5; exact q_cv (by simp [mg2, q1, q2, c18, q_b]) hk)
      | (have q5 := c18; exact q_cv (by simp [mg2, q5, q_b]) hk)
      | (have q5 : mgT M u = false := q_b0 c13; exact q_cv (by simp [mg2, q5, q_b]) hk)
      | (have q5 : mgT M t = false := q_b0 c5; exact q_cv (by simp [mg2, q5, q_b]) hk)
  · refine wX9_areTwo_8 ?_
    refine wX9_areTwo_9 ?_
    refine wX9_areTwo_10 hM.c (mX9_isTeam hM ?_)
    refine wX9_areTwo_13 (fun c13 => ?_) (fun c13 => ?_)
    · refine wX9_areTwo_25 ?_
      refine wX9_areTwo_26  ?_
      first
        | (have q2 : mgT M u = true := q_b1 c13; have q1 : mgT M t = true := q_b1 c5; exact q_cv (by simp [mg2, q1, q2, c18, q_b]) hk)
        | (have q5 := c18; exact q_cv (by simp [mg2, q5, q_b]) hk)
        | (have q5 : mgT M u = false := q_b0 c13; exact q_cv (by simp [mg2, q5, q_b]) hk)
        | (have q5 : mgT M t = false := q_b0 c5; exact q_cv (by simp [mg2, q5, q_b]) hk)
    · refine wX9_areTwo_16 ?_
      refine wX9_areTwo_17 ?_
      refine wX9_areTwo_18 (fun c18 => ?_) (fun c18 => ?_)
      · refine wX9_areTwo_25 ?_
        refine wX9_areTwo_26  ?_
        first
          | (have q2 : mgT M u = true := q_b1 c13; have q1 : mgT M t = true := q_b1 c5; exact q_cv (by simp [mg2, q1, q2, c18, q_b]) hk)
          | (have q5 := c18; exact q_cv (by simp [mg2, q5, q_b]) hk)
          | (have q5 : mgT M u = false := q_b0 c13; exact q_cv (by simp [mg2, q5, q_b]) hk)
          | (have q5 : mgT M t = false := q_b0 c5; exact q_cv (by simp [mg2, q5, q_b]) hk)
      · refine wX9_areTwo_21 ?_
        refine wX9_areTwo_22 ?_
        refine wX9_areTwo_26  ?_
        first
          | (have q2 : mgT M u = true := q_b1 c13; have q1 : mgT M t = true := q_b1 c5; exact q_cv (by simp [mg2, q1, q2, c18, q_b]) hk)
          | (have q5 := c18; exact q_cv (by simp [mg2, q5, q_b]) hk)
          | (have q5 : mgT M u = false := q_b0 c13; exact q_cv (by simp [mg2, q5, q_b]) hk)
          | (have q5 : mgT M t = false := q_b0 c5; exact q_cv (by simp [mg2, q5, q_b]) hk)
theorem mX9_isSigning {a : Nat} {M : q_Mo} {t p x : Int32} {P : Int32 → q_H → Option Nat → Prop} (hM : isM h a M) (hk : P (q_b (mgS M t p x)) h z) : QMi V iX9_isSigning [.ref a, .int t, .int p, .int x] h z P Kx := by
  refine eX9_isSigning ?_
  refine wX9_isSigning_0 ?_
  refine wX9_isSigning_1 ?_
  refine wX9_isSigning_2 hM.c (mX9_isTeam hM ?_)
  refine wX9_isSigning_5 (fun c5 => ?_) (fun c5 => ?_)
  · refine wX9_isSigning_32 ?_
    refine wX9_isSigning_33  ?_
    first
      | (have q5 : rgL x.toInt64 0 3 = true := q_b1 c25; have q1 : mgT M t = true := q_b1 c5; have q2 : mgP M p = true := q_b1 c13; exact q_cv (by simp [mgS, q1, q2, q5, q_b]) hk)
      | (have q5 : rgL x.toInt64 0 3 = false := q_b0 c25; exact q_cv (by simp [mgS, q5, q_b]) hk)
      | (have q5 : mgP M p = false := q_b0 c13; exact q_cv (by simp [mgS, q5, q_b]) hk)
      | (have q5 : mgT M t = false := q_b0 c5; exact q_cv (by simp [mgS, q5, q_b]) hk)
  · refine wX9_isSigning_8 ?_
    refine wX9_isSigning_9 ?_
    refine wX9_isSigning_10 hM.c (mX9_isPlayer hM ?_)
    refine wX9_isSigning_13 (fun c13 => ?_) (fun c13 => ?_)
    · refine wX9_isSigning_32 ?_
      refine wX9_isSigning_33  ?_
      first
        | (have q5 : rgL x.toInt64 0 3 = true := q_b1 c25; have q1 : mgT M t = true := q_b1 c5; have q2 : mgP M p = true := q_b1 c13; exact q_cv (by simp [mgS, q1, q2, q5, q_b]) hk)
        | (have q5 : rgL x.toInt64 0 3 = false := q_b0 c25; exact q_cv (by simp [mgS, q5, q_b]) hk)
        | (have q5 : mgP M p = false := q_b0 c13; exact q_cv (by simp [mgS, q5, q_b]) hk)
        | (have q5 : mgT M t = false := q_b0 c5; exact q_cv (by simp [mgS, q5, q_b]) hk)
    · refine wX9_isSigning_16 ?_
      refine wX9_isSigning_17 ?_
      refine wX9_isSigning_18 ?_
      refine wX9_isSigning_19 ?_
      refine wX9_isSigning_22 (mX9_isIn ?_)
      refine wX9_isSigning_25 (fun c25 => ?_) (fun c25 => ?_)
      · refine wX9_isSigning_32 ?_
        refine wX9_isSigning_33  ?_
        first
          | (have q5 : rgL x.toInt64 0 3 = true := q_b1 c25; have q1 : mgT M t = true := q_b1 c5; have q2 : mgP M p = true := q_b1 c13; exact q_cv (by simp [mgS, q1, q2, q5, q_b]) hk)
          | (have q5 : rgL x.toInt64 0 3 = false := q_b0 c25; exact q_cv (by simp [mgS, q5, q_b]) hk)
          | (have q5 : mgP M p = false := q_b0 c13; exact q_cv (by simp [mgS, q5, q_b]) hk)
          | (have q5 : mgT M t = false := q_b0 c5; exact q_cv (by simp [mgS, q5, q_b]) hk)
      · refine wX9_isSigning_28 ?_
        refine wX9_isSigning_29 ?_
        refine wX9_isSigning_33  ?_
        first
          | (have q5 : rgL x.toInt64 0 3 = true := q_b1 c25; have q1 : mgT M t = true := q_b1 c5; have q2 : mgP M p = true := q_b1 c13; exact q_cv (by simp [mgS, q1, q2, q5, q_b]) hk)
          | (have q5 : rgL x.toInt64 0 3 = false := q_b0 c25; exact q_cv (by simp [mgS, q5, q_b]) hk)
          | (have q5 : mgP M p = false := q_b0 c13; exact q_cv (by simp [mgS, q5, q_b]) hk)
          | (have q5 : mgT M t = false := q_b0 c5; exact q_cv (by simp [mgS, q5, q_b]) hk)
/-- a trade's early answers; the row behind a trade; its answer -/
def r_tre (r : Nat → Int64) (np t : Nat) (s : Int32) (u : Nat) (v : Int32) : Int32 :=
  if s = 0 ∧ v = 0 then -2 else if ¬ s &&& (r_set r t np ^^^ -1) = 0 ∨ ¬ v &&& (r_set r u np ^^^ -1) = 0 then -3
  else if 12 < r_ty (r_set r t np) 24 - r_ty s 24 + r_ty v 24 ∨ 12 < r_ty (r_set r u np) 24 - r_ty v 24 + r_ty s 24 then -4 else 0
def r_tr2 (r : Nat → Int64) (w np t : Nat) (s : Int32) (u : Nat) (v : Int32) : Nat → Int64 := r_mv (r_mv r w s t u np) w v u t np
def r_trr (r : Nat → Int64) (w np t : Nat) (s : Int32) (u : Nat) (v : Int32) : Nat → Int64 := if r_tre r np t s u v = 0 then r_tr2 r w np t s u v else r
def r_trm (m : Nat → Int32) (r r2 : Nat → Int64) (w np t : Nat) (s : Int32) (u : Nat) (v : Int32) : Int32 :=
  if r_mt (r_ch r2 np w t 0) (r_cap m w 0) (r_ln m w 0) (r_ch r np w t 0) (r_sls r s np) (r_sls r v np) = true then (if r_mt (r_ch r2 np w u 0) (r_cap m w 0) (r_ln m w 0) (r_ch r np w u 0) (r_sls r v np) (r_sls r s np) = true then 0 else -6) else -5
def r_trc (m : Nat → Int32) (r : Nat → Int64) (w np t : Nat) (s : Int32) (u : Nat) (v : Int32) : Int32 := if r_tre r np t s u v = 0 then r_trm m r (r_tr2 r w np t s u v) w np t s u v else r_tre r np t s u v
theorem mX9_trades {a : Nat} {M : q_Mo} {r : Nat → Int64} {t u : Nat} {s v : Int32} {w nt np nb : Nat} {P : Int32 → q_H → Option Nat → Prop} (hM : isM h a (mLr M 1 r)) (hO : okM (mLr M 1 r) w nt np nb) (ht : t < 4) (hu : u < 4) (hk : ∀ h2, isM h2 a (mLr M 1 (r_trr r w np t s u v)) → q_out a 13 h h2 → P (r_trc M.1 r w np t s u v) h2 z) : QMi V iX9_trades [.ref a, .int (nI t), .int s, .int (nI u), .int v] h z P Kx := by
  have ho : q_out a 13 h h := q_out.refl
  have hnp := hO.2.2.1.1
  have hfin : ∀ c : Int32, ¬ c = 0 → r_tre r np t s u v = c → P c h z := fun c c0 e => by
    have h1 : r_trr r w np t s u v = r := by rw [r_trr, e, if_neg c0]
    have h2 : r_trc M.1 r w np t s u v = c := by rw [r_trc, e, if_neg c0]
    exact q_cv h2.symm (hk _ (by rw [h1]; exact hM) ho)
  have hj : ¬ (s = 0 ∧ v = 0) → QW V iX9_trades 12 [some (.ref a), some (.int (nI t)), some (.int s), some (.int (nI u)), some (.int v), none, none, none, none, none, none] [] h z 0 0 (q_Ki P) Kx := by
    intro hn0
    refine wX9_trades_12 ?_
    refine wX9_trades_13 ?_
    refine wX9_trades_14 ?_
    refine wX9_trades_15 hM.c (mX9_rosterOf hM hO ?_)
    refine wX9_trades_18 ?_
    refine wX9_trades_19 ?_
    refine wX9_trades_20 ?_
    refine wX9_trades_21 (fun c21 => ?_) (fun c21 => ?_)
    · refine wX9_trades_37 ?_
      refine wX9_trades_39  ?_
      refine hfin _ (by decide) ?_
      first
        | (have q9 : ¬ v &&& (r_set r u np ^^^ -1) = 0 := c34; rw [r_tre, if_neg hn0, if_pos (Or.inr q9)])
        | (have q9 : ¬ s &&& (r_set r t np ^^^ -1) = 0 := c21; rw [r_tre, if_neg hn0, if_pos (Or.inl q9)])
    · refine wX9_trades_24 ?_
      refine wX9_trades_26 ?_
      refine wX9_trades_27 ?_
      refine wX9_trades_28 hM.c (mX9_rosterOf hM hO ?_)
      refine wX9_trades_31 ?_
      refine wX9_trades_32 ?_
      refine wX9_trades_33 ?_
      refine wX9_trades_34 (fun c34 => ?_) (fun c34 => ?_)
      · have hs : s &&& (r_set r t np ^^^ -1) = 0 := c21
        have hv : v &&& (r_set r u np ^^^ -1) = 0 := c34
        refine wX9_trades_40 ?_
        refine wX9_trades_41 ?_
        refine wX9_trades_42 hM.c (mX9_rosterOf hM hO ?_)
        refine wX9_trades_45 (mX9_many ?_)
        refine wX9_trades_48 ?_
        refine wX9_trades_49 (mX9_many ?_)
        refine wX9_trades_52 ?_
        refine wX9_trades_53 ?_
        refine wX9_trades_55 (mX9_many ?_)
        refine wX9_trades_58 ?_
        refine wX9_trades_59 ?_
        refine wX9_trades_61 ?_
        refine wX9_trades_62 ?_
        refine wX9_trades_63 hM.c (mX9_rosterOf hM hO ?_)
        refine wX9_trades_66 (mX9_many ?_)
        refine wX9_trades_69 ?_
        refine wX9_trades_71 (mX9_many ?_)
        refine wX9_trades_74 ?_
        refine wX9_trades_75 ?_
        refine wX9_trades_76 (mX9_many ?_)
        refine wX9_trades_79 ?_
        refine wX9_trades_80 ?_
        refine wX9_trades_82 ?_
        refine wX9_trades_84 ?_
        refine wX9_trades_86 (fun c86 => ?_) (fun c86 => ?_)
        · refine wX9_trades_96 ?_
          refine wX9_trades_98  ?_
          refine hfin _ (by decide) ?_
          have hs : s &&& (r_set r t np ^^^ -1) = 0 := c21
          have hv : v &&& (r_set r u np ^^^ -1) = 0 := c34
          first
            | (have q9 : 12 < r_ty (r_set r u np) 24 - r_ty v 24 + r_ty s 24 := Int32.not_le.mp c93; rw [r_tre, if_neg hn0, if_neg (fun q => q.elim (fun q => q hs) (fun q => q hv)), if_pos (Or.inr q9)])
            | (have q9 : 12 < r_ty (r_set r t np) 24 - r_ty s 24 + r_ty v 24 := c86; rw [r_tre, if_neg hn0, if_neg (fun q => q.elim (fun q => q hs) (fun q => q hv)), if_pos (Or.inl q9)])
        · refine wX9_trades_89 ?_
          refine wX9_trades_91 ?_
          refine wX9_trades_93 (fun c93 => ?_) (fun c93 => ?_)
          · have hm1 : ¬ 12 < r_ty (r_set r t np) 24 - r_ty s 24 + r_ty v 24 := c86
            have hm2 : ¬ 12 < r_ty (r_set r u np) 24 - r_ty v 24 + r_ty s 24 := Int32.not_lt.mpr c93
            have he : r_tre r np t s u v = 0 := by rw [r_tre, if_neg hn0, if_neg (fun q => q.elim (fun q => q hs) (fun q => q hv)), if_neg (fun q => q.elim hm1 hm2)]
            have hs5 : ∀ p, p < 24 → q_bit s p = true → ¬ r_op r p 5 = 0 := fun p hp hb => hO.2.2.2.2.2 p hp (by
              have := (q_sub_r hnp hs (by omega) hb).2
              unfold r_has
              rw [decide_eq_true]
              show ¬ r_op r p 0 = -1
              rw [this]; exact (by decide : ∀ t, t < 4 → ¬ nI t = -1) t ht)
            have hv5 : ∀ p, p < 24 → q_bit v p = true → ¬ r_op (r_mv r w s t u np) p 5 = 0 := fun p hp hb => by
              rw [r_mv_5 hp]
              refine hO.2.2.2.2.2 p hp ?_
              have := (q_sub_r hnp hv (by omega) hb).2
              unfold r_has
              rw [decide_eq_true]
              show ¬ r_op r p 0 = -1
              rw [this]; exact (by decide : ∀ t, t < 4 → ¬ nI t = -1) u hu
            have hO1 := okM_mv (f := t) (t := u) (k := np) hO hs5
            have hO2 := okM_mv (f := u) (t := t) (k := np) hO1 hv5
            refine wX9_trades_99 ?_
            refine wX9_trades_100 ?_
            refine wX9_trades_101 hM.c (mX9_salariesOf hM hO ?_)
            refine wX9_trades_104 ?_
            refine wX9_trades_106 ?_
            refine wX9_trades_107 ?_
            refine wX9_trades_109 hM.c (mX9_salariesOf hM hO ?_)
            refine wX9_trades_112 ?_
            refine wX9_trades_114 ?_
            refine wX9_trades_115 ?_
            refine wX9_trades_116 ?_
            refine wX9_trades_117 hM.c (mX9_chargeOf (x := 0) hM hO ht (by decide) ?_)
            refine wX9_trades_120 ?_
            refine wX9_trades_122 ?_
            refine wX9_trades_123 ?_
            refine wX9_trades_124 ?_
            refine wX9_trades_125 hM.c (mX9_chargeOf (x := 0) hM hO hu (by decide) ?_)
            refine wX9_trades_128 ?_
            refine wX9_trades_130 ?_
            refine wX9_trades_131 ?_
            refine wX9_trades_132 ?_
            refine wX9_trades_133 ?_
            refine wX9_trades_134 hM.c (mX9_moves hM hO ht hs5 (fun h2 hM ho2 => ?_))
            have ho := ho.trans ho2
            refine wX9_trades_137 ?_
            refine wX9_trades_138 ?_
            refine wX9_trades_140 ?_
            refine wX9_trades_141 ?_
            refine wX9_trades_142 hM.c (mX9_moves hM hO1 hu hv5 (fun h2 hM ho2 => ?_))
            have ho := ho.trans ho2
            refine wX9_trades_145 ?_
            refine wX9_trades_146 ?_
            refine wX9_trades_147 ?_
            refine wX9_trades_149 ?_
            refine wX9_trades_151 ?_
            refine wX9_trades_153 hM.c (mX9_matches hM hO2 ht ?_)
            refine wX9_trades_156 (fun c156 => ?_) (fun c156 => ?_)
            · refine wX9_trades_162 ?_
              refine wX9_trades_163 ?_
              refine wX9_trades_164 ?_
              refine wX9_trades_166 ?_
              refine wX9_trades_168 ?_
              refine wX9_trades_170 hM.c (mX9_matches hM hO2 hu ?_)
              refine wX9_trades_173 (fun c173 => ?_) (fun c173 => ?_)
              · refine wX9_trades_180 ?_
                refine wX9_trades_182  ?_
                have hh := hk _ (by rw [r_trr, he, if_pos rfl]; exact hM) ho
                rw [r_trc, he, if_pos rfl, r_trm] at hh
                first
                  | (have q9 : r_mt (r_ch (r_tr2 r w np t s u v) np w u 0) (r_cap M.1 w 0) (r_ln M.1 w 0) (r_ch r np w u 0) (r_sls r v np) (r_sls r s np) = true := q_b1 c173; have q8 : r_mt (r_ch (r_tr2 r w np t s u v) np w t 0) (r_cap M.1 w 0) (r_ln M.1 w 0) (r_ch r np w t 0) (r_sls r s np) (r_sls r v np) = true := q_b1 c156; rw [if_pos q8, if_pos q9] at hh; exact hh)
                  | (have q9 : r_mt (r_ch (r_tr2 r w np t s u v) np w u 0) (r_cap M.1 w 0) (r_ln M.1 w 0) (r_ch r np w u 0) (r_sls r v np) (r_sls r s np) = false := q_b0 c173; have q8 : r_mt (r_ch (r_tr2 r w np t s u v) np w t 0) (r_cap M.1 w 0) (r_ln M.1 w 0) (r_ch r np w t 0) (r_sls r s np) (r_sls r v np) = true := q_b1 c156; rw [if_pos q8, if_neg (by rw [q9]; decide)] at hh; exact hh)
                  | (have q8 : r_mt (r_ch (r_tr2 r w np t s u v) np w t 0) (r_cap M.1 w 0) (r_ln M.1 w 0) (r_ch r np w t 0) (r_sls r s np) (r_sls r v np) = false := q_b0 c156; rw [if_neg (by rw [q8]; decide)] at hh; exact hh)
              · refine wX9_trades_176 ?_
                refine wX9_trades_177 ?_
                refine wX9_trades_182  ?_
                have hh := hk _ (by rw [r_trr, he, if_pos rfl]; exact hM) ho
                rw [r_trc, he, if_pos rfl, r_trm] at hh
                first
                  | (have q9 : r_mt (r_ch (r_tr2 r w np t s u v) np w u 0) (r_cap M.1 w 0) (r_ln M.1 w 0) (r_ch r np w u 0) (r_sls r v np) (r_sls r s np) = true := q_b1 c173; have q8 : r_mt (r_ch (r_tr2 r w np t s u v) np w t 0) (r_cap M.1 w 0) (r_ln M.1 w 0) (r_ch r np w t 0) (r_sls r s np) (r_sls r v np) = true := q_b1 c156; rw [if_pos q8, if_pos q9] at hh; exact hh)
                  | (have q9 : r_mt (r_ch (r_tr2 r w np t s u v) np w u 0) (r_cap M.1 w 0) (r_ln M.1 w 0) (r_ch r np w u 0) (r_sls r v np) (r_sls r s np) = false := q_b0 c173; have q8 : r_mt (r_ch (r_tr2 r w np t s u v) np w t 0) (r_cap M.1 w 0) (r_ln M.1 w 0) (r_ch r np w t 0) (r_sls r s np) (r_sls r v np) = true := q_b1 c156; rw [if_pos q8, if_neg (by rw [q9]; decide)] at hh; exact hh)
                  | (have q8 : r_mt (r_ch (r_tr2 r w np t s u v) np w t 0) (r_cap M.1 w 0) (r_ln M.1 w 0) (r_ch r np w t 0) (r_sls r s np) (r_sls r v np) = false := q_b0 c156; rw [if_neg (by rw [q8]; decide)] at hh; exact hh)
            · refine wX9_trades_159 ?_
              refine wX9_trades_161  ?_
              have hh := hk _ (by rw [r_trr, he, if_pos rfl]; exact hM) ho
              rw [r_trc, he, if_pos rfl, r_trm] at hh
              first
                | (have q9 : r_mt (r_ch (r_tr2 r w np t s u v) np w u 0) (r_cap M.1 w 0) (r_ln M.1 w 0) (r_ch r np w u 0) (r_sls r v np) (r_sls r s np) = true := q_b1 c173; have q8 : r_mt (r_ch (r_tr2 r w np t s u v) np w t 0) (r_cap M.1 w 0) (r_ln M.1 w 0) (r_ch r np w t 0) (r_sls r s np) (r_sls r v np) = true := q_b1 c156; rw [if_pos q8, if_pos q9] at hh; exact hh)
                | (have q9 : r_mt (r_ch (r_tr2 r w np t s u v) np w u 0) (r_cap M.1 w 0) (r_ln M.1 w 0) (r_ch r np w u 0) (r_sls r v np) (r_sls r s np) = false := q_b0 c173; have q8 : r_mt (r_ch (r_tr2 r w np t s u v) np w t 0) (r_cap M.1 w 0) (r_ln M.1 w 0) (r_ch r np w t 0) (r_sls r s np) (r_sls r v np) = true := q_b1 c156; rw [if_pos q8, if_neg (by rw [q9]; decide)] at hh; exact hh)
                | (have q8 : r_mt (r_ch (r_tr2 r w np t s u v) np w t 0) (r_cap M.1 w 0) (r_ln M.1 w 0) (r_ch r np w t 0) (r_sls r s np) (r_sls r v np) = false := q_b0 c156; rw [if_neg (by rw [q8]; decide)] at hh; exact hh)
          · refine wX9_trades_96 ?_
            refine wX9_trades_98  ?_
            refine hfin _ (by decide) ?_
            have hs : s &&& (r_set r t np ^^^ -1) = 0 := c21
            have hv : v &&& (r_set r u np ^^^ -1) = 0 := c34
            first
              | (have q9 : 12 < r_ty (r_set r u np) 24 - r_ty v 24 + r_ty s 24 := Int32.not_le.mp c93; rw [r_tre, if_neg hn0, if_neg (fun q => q.elim (fun q => q hs) (fun q => q hv)), if_pos (Or.inr q9)])
              | (have q9 : 12 < r_ty (r_set r t np) 24 - r_ty s 24 + r_ty v 24 := c86; rw [r_tre, if_neg hn0, if_neg (fun q => q.elim (fun q => q hs) (fun q => q hv)), if_pos (Or.inl q9)])
      · refine wX9_trades_37 ?_
        refine wX9_trades_39  ?_
        refine hfin _ (by decide) ?_
        first
          | (have q9 : ¬ v &&& (r_set r u np ^^^ -1) = 0 := c34; rw [r_tre, if_neg hn0, if_pos (Or.inr q9)])
          | (have q9 : ¬ s &&& (r_set r t np ^^^ -1) = 0 := c21; rw [r_tre, if_neg hn0, if_pos (Or.inl q9)])
  refine eX9_trades ?_
  refine wX9_trades_0 ?_
  refine wX9_trades_1 (fun c1 => ?_) (fun c1 => ?_)
  · first
      | (have q9 : ¬ s = 0 := c1; exact hj (fun q => q9 q.1))
      | (have q9 : ¬ v = 0 := c6; exact hj (fun q => q9 q.2))
  · refine wX9_trades_4 ?_
    refine wX9_trades_6 (fun c6 => ?_) (fun c6 => ?_)
    · first
        | (have q9 : ¬ s = 0 := c1; exact hj (fun q => q9 q.1))
        | (have q9 : ¬ v = 0 := c6; exact hj (fun q => q9 q.2))
    · refine wX9_trades_9 ?_
      refine wX9_trades_11  ?_
      exact hfin _ (by decide) (by rw [r_tre, if_pos ⟨c1, c6⟩])
end CX9c

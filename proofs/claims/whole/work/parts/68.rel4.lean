/-! Questions on both sides: room, taxes, measures, ranks -/
section REL4
theorem RTm.tx {T : q_Tm} {r : Nat → Int64} {t w c : Nat} (h : RTm T r t w c) : (r_ot r t 1).toInt32 = t_x T := by rw [h.2.2.2.1, Int32.toInt32_toInt64]
/-- what the brackets take is small -/
theorem RE.lp_bd {T : q_Te} {M : q_Mo} {nt np nb : Nat} (h : RE T M nt np nb) {L : Int64} (hL : 0 ≤ L.toInt ∧ L.toInt ≤ 800000000) (k : Nat) (hk : k ≤ nb) : 0 ≤ (te_lp T L k).1.toInt ∧ (te_lp T L k).1.toInt ≤ 9 * (L.toInt - (te_lp T L k).2.toInt) ∧ 0 ≤ (te_lp T L k).2.toInt ∧ (te_lp T L k).2.toInt ≤ L.toInt := by
  induction k with
  | zero => exact ⟨show 0 ≤ (0 : Int64).toInt by decide, by show (0 : Int64).toInt ≤ 9 * (L.toInt - L.toInt); rw [Int.sub_self]; decide, hL.1, Int.le_refl _⟩
  | succ k ih =>
    obtain ⟨i1, i2, i3, i4⟩ := ih (by omega)
    obtain ⟨b1, b2, b3, b4, b5⟩ := h.2.2.2.2.2.2.2.1 k (by omega)
    have c3 := q_i32.mp b3; have c4 := q_i32.mp b4; have c5 := q_i32.mp b5
    rw [show (1 : Int32).toInt = 1 from by decide] at c3
    rw [show (0 : Int32).toInt = 0 from by decide] at c4
    rw [show (900 : Int32).toInt = 900 from by decide] at c5
    rw [te_lp]
    generalize (te_lp T L k).1 = sm at i1 i2 ⊢
    generalize (te_lp T L k).2 = lf at i2 i3 i4 ⊢
    have hp : 0 ≤ (te_pt T k lf).toInt ∧ (te_pt T k lf).toInt ≤ lf.toInt := by
      unfold te_pt
      by_cases q : nI k = te_n T - 1
      · rw [if_pos q]; exact ⟨i3, Int.le_refl _⟩
      · rw [if_neg q]
        by_cases q2 : (te_s T k).toInt64 < lf
        · rw [if_pos q2, Int32.toInt_toInt64]
          have := Int64.lt_iff_toInt_lt.mp q2
          rw [Int32.toInt_toInt64] at this
          omega
        · rw [if_neg q2]; exact ⟨i3, Int.le_refl _⟩
    generalize te_pt T k lf = pt at hp ⊢
    have u1 : 0 ≤ pt.toInt * (te_r T k).toInt := Int.mul_nonneg hp.1 c4
    have u2 : pt.toInt * (te_r T k).toInt ≤ pt.toInt * 900 := Int.mul_le_mul_of_nonneg_left c5 hp.1
    have e1 : (pt * (te_r T k).toInt64).toInt = pt.toInt * (te_r T k).toInt := by
      rw [Int64.toInt_mul, Int32.toInt_toInt64]; exact Int.bmod_eq_of_le (by omega) (by omega)
    have e2 : (pt * (te_r T k).toInt64 / 100).toInt = pt.toInt * (te_r T k).toInt / 100 := by
      rw [Int64.toInt_div_of_ne_right _ _ (by decide), e1, show (100 : Int64).toInt = 100 from by decide, Int.tdiv_eq_ediv_of_nonneg u1]
    have e3 : (sm + pt * (te_r T k).toInt64 / 100).toInt = sm.toInt + pt.toInt * (te_r T k).toInt / 100 := by
      rw [Int64.toInt_add, e2]; exact Int.bmod_eq_of_le (by omega) (by omega)
    have e4 : (lf - pt).toInt = lf.toInt - pt.toInt := by
      rw [Int64.toInt_sub]; exact Int.bmod_eq_of_le (by omega) (by omega)
    show 0 ≤ (sm + pt * (te_r T k).toInt64 / 100).toInt ∧ (sm + pt * (te_r T k).toInt64 / 100).toInt ≤ 9 * (L.toInt - (lf - pt).toInt) ∧ 0 ≤ (lf - pt).toInt ∧ (lf - pt).toInt ≤ L.toInt
    rw [e3, e4]
    omega
theorem RE.tax_bd {T : q_Te} {M : q_Mo} {nt np nb : Nat} (h : RE T M nt np nb) {ch tx : Int32} {w x : Nat} (hx : w + x < 27) (hc : 0 ≤ ch.toInt ∧ ch.toInt ≤ 800000000) : 0 ≤ (te_tax T ch (nI w + nI x) tx).toInt ∧ (te_tax T ch (nI w + nI x) tx).toInt ≤ 8000000000 := by
  unfold te_tax
  cases q : te_tx T ch (nI w + nI x)
  · rw [if_neg (by decide)]; decide
  · rw [if_pos rfl]
    have hl := h.ln_bd hx
    rw [h.line hx] at hl
    have hgt : ¬ ch ≤ te_li T (nI w + nI x) := of_decide_eq_true q
    rw [q_i32] at hgt
    have e1 : (ch.toInt64 - (te_li T (nI w + nI x)).toInt64).toInt = ch.toInt - (te_li T (nI w + nI x)).toInt := by
      rw [Int64.toInt_sub, Int32.toInt_toInt64, Int32.toInt_toInt64]; exact Int.bmod_eq_of_le (by omega) (by omega)
    rw [h.2.2.2.1.2.2.2.2.1, nI_clamp (by have := h.2.2.1; omega)]
    have hb := h.lp_bd (L := ch.toInt64 - (te_li T (nI w + nI x)).toInt64) (by rw [e1]; omega) nb (Nat.le_refl _)
    rw [e1] at hb
    split
    · rw [Int64.toInt_add, e1, Int.bmod_eq_of_le (by omega) (by omega)]; omega
    · omega
theorem q_dif {a b : Int64} (ha : -9000000000 ≤ a.toInt ∧ a.toInt ≤ 9000000000) (hb : -9000000000 ≤ b.toInt ∧ b.toInt ≤ 9000000000) : (0 < a - b ↔ b < a) ∧ (a - b = 0 ↔ a = b) := by
  have e : (a - b).toInt = a.toInt - b.toInt := by rw [Int64.toInt_sub]; exact Int.bmod_eq_of_le (by omega) (by omega)
  constructor
  · rw [Int64.lt_iff_toInt_lt, Int64.lt_iff_toInt_lt, e, show (0 : Int64).toInt = 0 from by decide]; omega
  · rw [← Int64.toInt_inj, ← Int64.toInt_inj, e, show (0 : Int64).toInt = 0 from by decide]; omega
theorem q_dif32 {a b : Int32} (ha : 0 ≤ a.toInt ∧ a.toInt ≤ 300000) (hb : 0 ≤ b.toInt ∧ b.toInt ≤ 300000) : (0 < a - b ↔ b < a) ∧ (a - b = 0 ↔ a = b) := by
  have e : (a - b).toInt = a.toInt - b.toInt := q_sub_i (by omega) (by omega)
  constructor
  · rw [Int32.lt_iff_toInt_lt, Int32.lt_iff_toInt_lt, e, show (0 : Int32).toInt = 0 from by decide]; omega
  · rw [← Int32.toInt_inj, ← Int32.toInt_inj, e, show (0 : Int32).toInt = 0 from by decide]; omega
section
variable {S : q_Ls} {M : q_Mo} {w nt np nb c : Nat}
theorem RB.w0 {B : q_Bk} {r : Nat → Int64} (h : RB B r w nt np c) : b_w B = nI w + nI 0 := by rw [h.1.2.2.1]; exact (Int32.add_zero _).symm
theorem RB.chw (h : RB (ls_B S) (m_r M) w nt np c) (hc : c ≤ 600) {t : Nat} (ht : t < 4) : 0 ≤ (b_ch (ls_B S) t (b_w (ls_B S))).toInt ∧ (b_ch (ls_B S) t (b_w (ls_B S))).toInt ≤ 800000000 := by
  rw [h.w0]; exact h.ch_bd hc ht (by omega)
theorem RB.room (h : RB (ls_B S) (m_r M) w nt np c) (he : RE (ls_T S) M nt np nb) {t : Nat} (ht : t < 4) : r_room M.1 (m_r M) np w t = l_room S t := by
  have := h.1.1
  unfold r_room l_room
  rw [h.ch0 ht, he.cap (by omega), ← h.w0]
theorem RB.tax (h : RB (ls_B S) (m_r M) w nt np c) (he : RE (ls_T S) M nt np nb) (hc : c ≤ 600) {t : Nat} (ht : t < 4) : r_tax M nb np w t = l_tax S t (b_ch (ls_B S) t (b_w (ls_B S))) := by
  have hw := h.1.1
  unfold r_tax l_tax r_ab
  rw [h.ch0 ht, (h.2.2.1 t ht).tx]
  have h1 := (he.tax (w := w) (x := 0) (by omega) (h.chw hc ht) (h.2.2.1 t ht).2.2.2.2.1).1
  rw [← h.w0] at h1
  exact h1
theorem RB.tx_step (h : RB (ls_B S) (m_r M) w nt np c) (he : RE (ls_T S) M nt np nb) (hc : c ≤ 600) {t : Nat} (ht : t < 4) (k : Nat) (hk : k ≤ 8) : r_ta M nb np w t k = l_ta S t k ∧ q_T (l_ta S t k).1 < 2 ^ (w + k) := by
  have hw := h.1.1
  induction k with
  | zero =>
    refine ⟨?_, (h.2.2.1 t ht).2.2.2.2.1⟩
    show ((r_ot (m_r M) t 1).toInt32, (0 : Int64)) = _
    rw [(h.2.2.1 t ht).tx]; rfl
  | succ k ih =>
    obtain ⟨i1, i2⟩ := ih (by omega)
    have hch := h.ch_bd hc ht (x := k) (by omega)
    have h1 := he.tax (w := w) (x := k) (tx := (l_ta S t k).1) (by omega) hch i2
    have ec : r_ab M.1 (m_r M) np w t k = b_ch (ls_B S) t (nI w + nI k) - r_ln M.1 w k := by unfold r_ab; rw [h.ch ht (by omega)]
    rw [r_ta, l_ta, i1, ec, h1.1, h.1.2.2.1]
    cases q : te_tx (ls_T S) (b_ch (ls_B S) t (nI w + nI k)) (nI w + nI k)
    · rw [if_pos (h1.2.mpr q), if_neg (by decide), Int32.or_zero]
      exact ⟨rfl, Nat.lt_of_lt_of_le i2 (Nat.pow_le_pow_right (by decide) (by omega))⟩
    · have hn : ¬ b_ch (ls_B S) t (nI w + nI k) - r_ln M.1 w k ≤ 0 := fun z => by rw [h1.2.mp z] at q; cases q
      rw [if_neg hn, if_pos rfl, nI_add]
      refine ⟨rfl, ?_⟩
      show q_T ((l_ta S t k).1 ||| ((1 : Int32) <<< (nI (w + k) &&& 31))) < 2 ^ (w + (k + 1))
      refine Nat.lt_pow_two_of_testBit _ (fun i hi => ?_)
      by_cases hi32 : i < 32
      · show ((l_ta S t k).1 ||| ((1 : Int32) <<< (nI (w + k) &&& 31))).toBitVec.getLsbD i = false
        rw [Int32.toBitVec_or, BitVec.getLsbD_or, q_shv (by omega) hi32, decide_eq_false (by omega), Bool.or_false]
        exact Nat.testBit_lt_two_pow (Nat.lt_of_lt_of_le i2 (Nat.pow_le_pow_right (by decide) (by omega)))
      · exact Nat.testBit_lt_two_pow (Nat.lt_of_lt_of_le (q_T_lt _) (Nat.pow_le_pow_right (n := 2) (i := 32) (by decide) (by omega)))
theorem RB.ms (h : RB (ls_B S) (m_r M) w nt np c) (he : RE (ls_T S) M nt np nb) (hc : c ≤ 600) {t : Nat} (ht : t < 4) (x : Int32) : r_ms M nb np w t x = l_ms S t x := by
  have hw := h.1.1
  unfold r_ms l_ms
  rw [h.ch0 ht, h.room he ht, h.tax he hc ht, h.cnt ht, h.dd ht (by omega), ← h.w0]
theorem RB.ms_bd (h : RB (ls_B S) (m_r M) w nt np c) (he : RE (ls_T S) M nt np nb) (hc : c ≤ 600) {t : Nat} (ht : t < 4) (x : Int32) : -9000000000 ≤ (l_ms S t x).toInt ∧ (l_ms S t x).toInt ≤ 9000000000 := by
  have hw := h.1.1
  have hi : ∀ y : Int32, -9000000000 ≤ (y.toInt64).toInt ∧ (y.toInt64).toInt ≤ 9000000000 := fun y => by
    rw [Int32.toInt_toInt64]; have := Int32.toInt_lt y; have := Int32.le_toInt y; omega
  unfold l_ms
  split
  · exact hi _
  · split
    · exact hi _
    · split
      · exact hi _
      · split
        · unfold l_tax
          rw [h.w0]
          have := he.tax_bd (tx := t_x (b_t (ls_B S) t)) (w := w) (x := 0) (by omega) (h.ch_bd hc ht (x := 0) (by omega))
          omega
        · exact hi _
theorem RB.tb (h : RB (ls_B S) (m_r M) w nt np c) (he : RE (ls_T S) M nt np nb) (hc : c ≤ 600) {t : Nat} (ht : t < 4) (x : Int32) (k : Nat) (hk : k ≤ 4) : r_tb M nb np w t x k = l_tb S t x k := by
  induction k with
  | zero => rfl
  | succ k ih =>
    have d := q_dif (h.ms_bd he hc (show k < 4 by omega) x) (h.ms_bd he hc ht x)
    rw [r_tb, l_tb, ih (by omega), h.ms he hc (show k < 4 by omega), h.ms he hc ht]
    by_cases q : l_ms S t x < l_ms S k x ∨ (l_ms S k x = l_ms S t x ∧ k < t)
    · rw [if_pos q, if_pos (q.elim (fun z => Or.inl (d.1.mpr z)) (fun z => Or.inr ⟨d.2.mpr z.1, z.2⟩))]
    · rw [if_neg q, if_neg (fun z => q (z.elim (fun z => Or.inl (d.1.mp z)) (fun z => Or.inr ⟨d.2.mp z.1, z.2⟩))), Int32.add_zero]
theorem RB.co (h : RB (ls_B S) (m_r M) w nt np c) {i : Nat} (hi : i < 24) : r_cost (m_r M) i = l_co S i := by
  unfold l_co; rw [(h.p hi).cost0 h.1.2.1 h.1.1, h.1.2.2.1]
theorem RB.co_bd (h : RB (ls_B S) (m_r M) w nt np c) {i : Nat} (hi : i < 24) : 0 ≤ (l_co S i).toInt ∧ (l_co S i).toInt ≤ 300000 := by
  unfold l_co; rw [h.w0]; exact (h.p hi).cost_bd h.1.1 (by omega)
theorem RB.pb (h : RB (ls_B S) (m_r M) w nt np c) {i : Nat} (hi : i < 24) (k : Nat) (hk : k ≤ 24) : r_pb (m_r M) i k = l_pb S i k := by
  induction k with
  | zero => rfl
  | succ k ih =>
    have d := q_dif32 (h.co_bd (show k < 24 by omega)) (h.co_bd hi)
    rw [r_pb, l_pb, ih (by omega), h.co (show k < 24 by omega), h.co hi, (h.p (show k < 24 by omega)).has]
    by_cases q : pl_has (b_p (ls_B S) k) = true ∧ (l_co S i < l_co S k ∨ (l_co S k = l_co S i ∧ k < i))
    · rw [if_pos q, if_pos ⟨q.1, q.2.elim (fun z => Or.inl (d.1.mpr z)) (fun z => Or.inr ⟨d.2.mpr z.1, z.2⟩)⟩]
    · rw [if_neg q, if_neg (fun z => q ⟨z.1, z.2.elim (fun z => Or.inl (d.1.mp z)) (fun z => Or.inr ⟨d.2.mp z.1, z.2⟩)⟩), Int32.add_zero]
end
end REL4

/-! Taxes on both sides -/
section REL3
theorem q_T_nn {x : Int32} (h : 0 ≤ x.toInt) : (q_T x : Int) = x.toInt := by
  have h1 := x.toBitVec.toInt_eq_toNat_cond
  have h2 := q_T_lt x
  unfold q_T at *
  show _ = x.toBitVec.toInt
  have h3 : 0 ≤ x.toBitVec.toInt := h
  rw [h1] at h3 ⊢
  split at h3
  · rename_i q; rw [if_pos q]
  · rename_i q; omega
/-- three or four bits of a set, counted -/
theorem rp_te {tx : Int32} {y : Nat} (hy : y < 27) (ht : q_T tx < 2 ^ y) : r_rp tx y = te_of (nI y) tx := by
  have e1 : q_T ((if nI y ≤ 4 then tx else q_us tx (nI y - 4)) &&& 15) = q_T tx / 2 ^ (y - 4) % 16 := by
    rw [q_T_and, show q_T 15 = 2 ^ 4 - 1 from by decide, Nat.and_two_pow_sub_one_eq_mod]
    by_cases q : nI y ≤ 4
    · have hy4 : y ≤ 4 := by
        by_cases z : y ≤ 4
        · exact z
        · exact absurd q (nI_ge (a := 4) (by omega) (by omega))
      rw [if_pos q, show y - 4 = 0 by omega, Nat.pow_zero, Nat.div_one]
    · have hy4 : ¬ y ≤ 4 := fun z => q (nI_le (b := 4) z (by decide))
      rw [if_neg q]
      have hs : nI y - 4 = nI (y - 4) := nI_sb (b := 4) (by omega)
      rw [hs, q_T_us (k := y - 4) ((by decide : ∀ k, k < 23 → ((nI k).toUInt32 &&& Int32.toUInt32 31).toNat = k) (y - 4) (by omega)) (by omega)]
  obtain ⟨m, em⟩ : ∃ m : Int32, m = ((if nI y ≤ 4 then tx else q_us tx (nI y - 4)) &&& 15) := ⟨_, rfl⟩
  have hm : q_T m < 16777216 := by rw [em, e1]; omega
  have e2 : q_bc m = r_rpn tx y := by
    rw [q_bc_ty hm]
    unfold r_ty
    rw [q_ac_tail (m := 4) (fun k h1 h2 => ?_) (by decide)]
    · unfold r_rpn
      have e3 : ∀ k, k < 4 → (m >>> (nI k &&& 31)) &&& 1 = nI (q_T tx / 2 ^ (y - 4 + k) % 2) := fun k hk => by
        rw [q_bit_n (by omega), em, e1]
        congr 1
        rw [Nat.pow_add, ← Nat.div_div_eq_div_mul]
        generalize q_T tx / 2 ^ (y - 4) = u
        rcases (show k = 0 ∨ k = 1 ∨ k = 2 ∨ k = 3 by omega) with rfl | rfl | rfl | rfl <;> simp <;> omega
      rw [q_ac_c (g := fun k => (tx >>> (nI (y - 4 + k) &&& 31)) &&& 1) (fun k hk => (e3 k hk).trans (q_bit_n (by omega)).symm)]
      refine q_ac_tail (m := y - (y - 4)) (fun k h1 h2 => ?_) (by omega)
      rw [q_bit_n (by omega)]
      have h4 : 2 ^ y ≤ 2 ^ (y - 4 + k) := Nat.pow_le_pow_right (by decide) (by omega)
      rw [Nat.div_eq_of_lt (Nat.lt_of_lt_of_le ht h4)]; rfl
    · rw [q_bit_n (by omega), em, e1]
      have : q_T tx / 2 ^ (y - 4) % 16 < 2 ^ k := Nat.lt_of_lt_of_le (show _ < 16 by omega) (show 16 ≤ 2 ^ k from (show (16 : Nat) = 2 ^ 4 by decide) ▸ Nat.pow_le_pow_right (by decide) h1)
      rw [Nat.div_eq_of_lt this]; rfl
  unfold r_rp te_of
  rw [← em, e2]
theorem q_add64 {a b : Int64} {x y : Int64} (h1 : a = x) (h2 : b = y) : a + b = x + y := by rw [h1, h2]
theorem q_sub_64 {a b : Int32} (h1 : -2147483648 ≤ a.toInt - b.toInt) (h2 : a.toInt - b.toInt < 2147483648) : (a - b).toInt64 = a.toInt64 - b.toInt64 := by
  apply Int64.toInt_inj.mp
  rw [Int32.toInt_toInt64, q_sub_i h1 h2, Int64.toInt_sub, Int32.toInt_toInt64, Int32.toInt_toInt64]
  exact (Int.bmod_eq_of_le (by omega) (by omega)).symm
section
variable {T : q_Te} {M : q_Mo} {nt np nb : Nat}
/-- the brackets' sums -/
theorem RE.lp (h : RE T M nt np nb) {ab : Int32} (hab : 0 ≤ ab.toInt) (s : Int64) (k : Nat) (hk : k ≤ nb) : (r_lp (M.1 7) (M.2.2 3) (M.2.2 4) s ab k).1 = s + (te_lp T ab.toInt64 k).1 ∧ (r_lp (M.1 7) (M.2.2 3) (M.2.2 4) s ab k).2.toInt64 = (te_lp T ab.toInt64 k).2 ∧ 0 ≤ (r_lp (M.1 7) (M.2.2 3) (M.2.2 4) s ab k).2.toInt := by
  induction k with
  | zero => exact ⟨(Int64.add_zero _).symm, rfl, hab⟩
  | succ k ih =>
    obtain ⟨i1, i2, i3⟩ := ih (by omega)
    obtain ⟨b1, b2, b3, -, -⟩ := h.2.2.2.2.2.2.2.1 k (by omega)
    have en := h.2.2.2.1
    have hp : (r_pt (M.1 7) (M.2.2 3) k (r_lp (M.1 7) (M.2.2 3) (M.2.2 4) s ab k).2).toInt64 = te_pt T k (te_lp T ab.toInt64 k).2 ∧ 0 ≤ (r_pt (M.1 7) (M.2.2 3) k (r_lp (M.1 7) (M.2.2 3) (M.2.2 4) s ab k).2).toInt ∧ (r_pt (M.1 7) (M.2.2 3) k (r_lp (M.1 7) (M.2.2 3) (M.2.2 4) s ab k).2).toInt ≤ (r_lp (M.1 7) (M.2.2 3) (M.2.2 4) s ab k).2.toInt := by
      generalize (r_lp (M.1 7) (M.2.2 3) (M.2.2 4) s ab k).2 = lf at i2 i3 ⊢
      unfold r_pt te_pt
      rw [en.2.2.2.2.1, en.2.2.2.2.2]
      by_cases q : nI k = nI nb - 1
      · rw [if_pos q, if_pos q]; exact ⟨i2, i3, Int.le_refl _⟩
      · rw [if_neg q, if_neg q, ← i2, ← b1]
        by_cases q2 : te_s T k < lf
        · rw [if_pos q2, if_pos (q_tl.mpr q2)]
          have := q_i32.mp b3
          rw [show (1 : Int32).toInt = 1 from by decide] at this
          have := Int32.lt_iff_toInt_lt.mp q2
          exact ⟨rfl, by omega, by omega⟩
        · rw [if_neg q2, if_neg (fun z => q2 (q_tl.mp z))]
          exact ⟨rfl, i3, Int.le_refl _⟩
    have hl := Int32.toInt_lt (r_lp (M.1 7) (M.2.2 3) (M.2.2 4) s ab k).2
    rw [r_lp, te_lp]
    refine ⟨?_, ?_, ?_⟩
    · show _ + _ = s + (_ + _)
      rw [i1, hp.1, b2, Int64.add_assoc]
    · show (_ - _ : Int32).toInt64 = _ - _
      rw [q_sub_64 (by omega) (by omega), i2, hp.1]
    · show 0 ≤ (_ - _ : Int32).toInt
      rw [q_sub_i (by omega) (by omega)]; omega
/-- a tax is the same on both sides -/
theorem RE.tax (h : RE T M nt np nb) {ch tx : Int32} {w x : Nat} (hx : w + x < 27) (hc : 0 ≤ ch.toInt ∧ ch.toInt ≤ 800000000) (ht : q_T tx < 2 ^ (w + x)) : r_txo M nb (ch - r_ln M.1 w x) (r_rp tx (w + x)) = te_tax T ch (nI w + nI x) tx ∧ ((ch - r_ln M.1 w x ≤ 0) ↔ te_tx T ch (nI w + nI x) = false) := by
  have hl := h.ln_bd hx
  have el := h.line hx
  have e0 : (ch - r_ln M.1 w x).toInt = ch.toInt - (r_ln M.1 w x).toInt := q_sub_i (by omega) (by omega)
  have e1 : (ch - r_ln M.1 w x).toInt64 = ch.toInt64 - (r_ln M.1 w x).toInt64 := q_sub_64 (by omega) (by omega)
  have iff1 : (ch - r_ln M.1 w x ≤ 0) ↔ ch ≤ r_ln M.1 w x := by
    rw [q_i32, q_i32, e0, show (0 : Int32).toInt = 0 from by decide]; omega
  have iff2 : (ch - r_ln M.1 w x ≤ 0) ↔ te_tx T ch (nI w + nI x) = false := by
    rw [iff1]; unfold te_tx; rw [← el]
    constructor
    · intro q; exact decide_eq_false (fun z => z q)
    · intro q; exact Classical.not_not.mp (of_decide_eq_false q)
  refine ⟨?_, iff2⟩
  unfold r_txo te_tax
  by_cases q : ch - r_ln M.1 w x ≤ 0
  · rw [if_pos q, if_neg (by rw [iff2.mp q]; decide)]
  · have q3 : te_tx T ch (nI w + nI x) = true := by
      cases z : te_tx T ch (nI w + nI x)
      · exact absurd (iff2.mpr z) q
      · rfl
    rw [if_neg q, if_pos q3, ← el, ← e1, h.2.2.2.1.2.2.2.2.1, nI_clamp (by have := h.2.2.1; omega), rp_te hx ht, nI_add]
    have hab : 0 ≤ (ch - r_ln M.1 w x).toInt := by
      rw [q_i32, show (0 : Int32).toInt = 0 from by decide] at q; omega
    rw [(h.lp hab _ nb (Nat.le_refl _)).1]
    cases te_of (nI (w + x)) tx
    · rw [if_neg (by decide), if_neg (by decide), Int64.zero_add]
    · rw [if_pos rfl, if_pos rfl, Int64.add_comm]
end
end REL3

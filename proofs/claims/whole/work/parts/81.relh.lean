/-! The best releases on both sides -/
section RELH
theorem con_sum {F : Nat → Nat → Int32} {v : Nat → Int32} {A : Nat} (h0 : ∀ m, m < 24 → A.testBit m = true → F (m + 1) = upd (F m) (s_n A m) (v m)) (h1 : ∀ m, m < 24 → A.testBit m = false → F (m + 1) = F m) {s s' : Int32} (hb : ∀ m, m < 24 → q_bit s m = (A.testBit m && q_bit s' (s_n A m))) (m : Nat) (hm : m ≤ 24) :
    q_ac 0 (fun i => if q_bit s' i = true then F m i else 0) (s_n A m) = q_ac 0 (fun q => if q_bit s q = true then v q else 0) m := by
  induction m with
  | zero => rw [s_n, q_ac, q_ac]
  | succ m ih =>
    have ih := ih (by omega)
    rw [q_ac]
    cases e : A.testBit m
    · have e1 : s_n A (m + 1) = s_n A m := by rw [s_n, e]; rfl
      have e2 : (if q_bit s m = true then v m else 0) = 0 := if_neg (by rw [hb m (by omega), e]; exact Bool.false_ne_true)
      rw [e1, h1 m (by omega) e, e2, Int32.add_zero]
      exact ih
    · have e1 : s_n A (m + 1) = s_n A m + 1 := by rw [s_n, e]; rfl
      have e2 : q_bit s m = q_bit s' (s_n A m) := by rw [hb m (by omega), e, Bool.true_and]
      have e3 : q_ac 0 (fun i => if q_bit s' i = true then F (m + 1) i else 0) (s_n A m) = q_ac 0 (fun i => if q_bit s' i = true then F m i else 0) (s_n A m) := q_ac_c (fun i hi => by
        rw [h0 m (by omega) e, upd_at, if_neg (show ¬ i = s_n A m by omega)])
      have e4 : F (m + 1) (s_n A m) = v m := by rw [h0 m (by omega) e, upd_at, if_pos rfl]
      rw [e1, q_ac, e3, e4, e2, ih]
theorem con_cn {A : Nat} {s s' : Int32} (hb : ∀ m, m < 24 → q_bit s m = (A.testBit m && q_bit s' (s_n A m))) (m : Nat) (hm : m ≤ 24) : q_cn s' (s_n A m) = q_cn s m := by
  induction m with
  | zero => rfl
  | succ m ih =>
    have ih := ih (by omega)
    rw [q_cn, ← ih, s_n, hb m (by omega)]
    cases e : A.testBit m
    · rfl
    · rw [if_pos rfl, q_cn, Bool.true_and]
theorem rl_nm_c {f f' : Nat → Int32} {s : Int32} {n : Nat} (h : ∀ i, i < n → f i = f' i) : rl_nm f s n = rl_nm f' s n := by
  induction n with
  | zero => rfl
  | succ n ih => rw [rl_nm, rl_nm, ih (fun i hi => h i (by omega)), h n (by omega)]
theorem con_nm {F : Nat → Nat → Int32} {A : Nat} (h0 : ∀ m, m < 24 → A.testBit m = true → F (m + 1) = upd (F m) (s_n A m) (nI m)) (h1 : ∀ m, m < 24 → A.testBit m = false → F (m + 1) = F m) {s s' : Int32} (hb : ∀ m, m < 24 → q_bit s m = (A.testBit m && q_bit s' (s_n A m))) (m : Nat) (hm : m ≤ 24) (i : Nat) (hi : i < 32) :
    (rl_nm (F m) s' (s_n A m)).toBitVec.getLsbD i = (decide (i < m) && q_bit s i) := by
  induction m with
  | zero => rw [decide_eq_false (by omega)]; show (Int32.toBitVec 0).getLsbD i = _; simp
  | succ m ih =>
    have ih := ih (by omega)
    cases e : A.testBit m
    · have e1 : s_n A (m + 1) = s_n A m := by rw [s_n, e]; rfl
      rw [e1, h1 m (by omega) e, ih]
      by_cases q : i = m
      · subst q
        rw [hb i (by omega), e, Bool.false_and, Bool.and_false, Bool.and_false]
      · rw [show decide (i < m + 1) = decide (i < m) from decide_eq_decide.mpr (by omega)]
    · have e2 : rl_nm (F (m + 1)) s' (s_n A m) = rl_nm (F m) s' (s_n A m) := rl_nm_c (fun k hk => by
        rw [h0 m (by omega) e]
        show (if k = s_n A m then nI m else F m k) = _
        rw [if_neg (by omega)])
      have e3 : F (m + 1) (s_n A m) = nI m := by
        rw [h0 m (by omega) e]
        show (if s_n A m = s_n A m then nI m else _) = _
        rw [if_pos rfl]
      have hbm := hb m (by omega)
      rw [e, Bool.true_and] at hbm
      have e1 : s_n A (m + 1) = s_n A m + 1 := by rw [s_n, e]; rfl
      rw [e1, rl_nm, e2, e3, ← hbm]
      cases q : q_bit s m
      · rw [if_neg (by decide), ih]
        by_cases z : i = m
        · subst z; rw [q, Bool.and_false, Bool.and_false]
        · rw [show decide (i < m + 1) = decide (i < m) from decide_eq_decide.mpr (by omega)]
      · rw [if_pos rfl, Int32.toBitVec_or, BitVec.getLsbD_or, ih, q_shv (by omega) hi]
        by_cases z : i = m
        · subst z; rw [q, decide_eq_true rfl, decide_eq_true (Nat.lt_succ_self _), Bool.or_true]; rfl
        · rw [decide_eq_false z, Bool.or_false, show decide (i < m + 1) = decide (i < m) from decide_eq_decide.mpr (by omega)]
section
variable {N : Nat} {ok : Nat → Prop} {it co : Nat → Int32} {ct : Nat → Nat}
theorem fold_R {R : Nat → Int32 × Int32 × Int32} (h0 : (R 0).1 = -1) (hi : ∀ i, i < N → ¬ it i = -1) (hc : ∀ i, i < N → ct i < 100)
    (hs1 : ∀ k, k < N → ok k → ((R k).1 = -1 ∨ nI (ct k) < (R k).2.1 ∨ (nI (ct k) = (R k).2.1 ∧ co k < (R k).2.2)) → R (k + 1) = (it k, nI (ct k), co k))
    (hs2 : ∀ k, k < N → ¬ (ok k ∧ ((R k).1 = -1 ∨ nI (ct k) < (R k).2.1 ∨ (nI (ct k) = (R k).2.1 ∧ co k < (R k).2.2))) → R (k + 1) = R k) (k : Nat) (hk : k ≤ N) :
    ((R k).1 = -1 ∧ ∀ i, i < k → ¬ ok i) ∨ ∃ i, i < k ∧ R k = (it i, nI (ct i), co i) ∧ ok i ∧ ∀ l, l < k → ok l → (ct i < ct l ∨ (ct i = ct l ∧ co i ≤ co l ∧ (l < i → co i < co l))) := by
  induction k with
  | zero => exact Or.inl ⟨h0, fun i h => absurd h (by omega)⟩
  | succ k ih =>
    have hk' : k < N := by omega
    by_cases o : ok k
    · rcases ih (by omega) with ⟨i1, i2⟩ | ⟨i, i1, i2, i3, i4⟩
      · refine Or.inr ⟨k, by omega, hs1 k hk' o (Or.inl i1), o, fun l hl ol => ?_⟩
        by_cases e : l = k
        · rw [e]; exact Or.inr ⟨rfl, Int32.le_refl _, fun z => by omega⟩
        · exact absurd ol (i2 l (by omega))
      · by_cases q : (R k).1 = -1 ∨ nI (ct k) < (R k).2.1 ∨ (nI (ct k) = (R k).2.1 ∧ co k < (R k).2.2)
        · refine Or.inr ⟨k, by omega, hs1 k hk' o q, o, fun l hl ol => ?_⟩
          by_cases e : l = k
          · rw [e]; exact Or.inr ⟨rfl, Int32.le_refl _, fun z => by omega⟩
          · rw [i2] at q
            have := i4 l (by omega) ol
            rcases q with q | q | ⟨q1, q2⟩
            · exact absurd q (hi i (by omega))
            · have := nI_lto (by have := hc k hk'; omega) q
              exact Or.inl (by omega)
            · have e1 : ct k = ct i := nI_inj (by have := hc k hk'; omega) (by have := hc i (by omega); omega) q1
              rcases this with t | ⟨t1, t2, t3⟩
              · exact Or.inl (by omega)
              · have : co k < co l := Int32.lt_of_lt_of_le q2 t2
                exact Or.inr ⟨by omega, Int32.le_of_lt this, fun _ => this⟩
        · refine Or.inr ⟨i, by omega, (hs2 k hk' (fun z => q z.2)).trans i2, i3, fun l hl ol => ?_⟩
          by_cases e : l = k
          · subst e
            rw [i2] at q
            have q1 : ¬ ct l < ct i := fun z => q (Or.inr (Or.inl (nI_lti (by have := hc i (by omega); omega) z)))
            by_cases z : ct i < ct l
            · exact Or.inl z
            · have e : ct l = ct i := by omega
              refine Or.inr ⟨by omega, Int32.not_lt.mp (fun w => q (Or.inr (Or.inr ⟨by rw [e], w⟩))), fun w => by omega⟩
          · exact i4 l (by omega) ol
    · have e := hs2 k hk' (fun z => o z.1)
      rw [e]
      rcases ih (by omega) with ⟨i1, i2⟩ | ⟨i, i1, i2, i3, i4⟩
      · exact Or.inl ⟨i1, fun i h => by
          by_cases e : i = k
          · rw [e]; exact o
          · exact i2 i (by omega)⟩
      · refine Or.inr ⟨i, by omega, i2, i3, fun l hl ol => ?_⟩
        by_cases e : l = k
        · rw [e] at ol; exact absurd ol o
        · exact i4 l (by omega) ol
theorem fold_C {C : Nat → Int32 × Int32} {W : Nat} (h0 : (C 0).1 = -1) (hN : N ≤ 4096)
    (hs1 : ∀ k, k < N → ct k = W → ok k → ((C k).1 = -1 ∨ co k < (C k).2) → C (k + 1) = (nI k, co k))
    (hs2 : ∀ k, k < N → ¬ (ct k = W ∧ ok k ∧ ((C k).1 = -1 ∨ co k < (C k).2)) → C (k + 1) = C k) (k : Nat) (hk : k ≤ N) :
    ((C k).1 = -1 ∧ ∀ i, i < k → ok i → ¬ ct i = W) ∨ ∃ i, i < k ∧ C k = (nI i, co i) ∧ ok i ∧ ct i = W ∧ ∀ l, l < k → ok l → ct l = W → (co i ≤ co l ∧ (l < i → co i < co l)) := by
  induction k with
  | zero => exact Or.inl ⟨h0, fun i h => absurd h (by omega)⟩
  | succ k ih =>
    have hk' : k < N := by omega
    by_cases o : ct k = W ∧ ok k
    · rcases ih (by omega) with ⟨i1, i2⟩ | ⟨i, i1, i2, i3, i5, i4⟩
      · refine Or.inr ⟨k, by omega, hs1 k hk' o.1 o.2 (Or.inl i1), o.2, o.1, fun l hl ol cl => ?_⟩
        by_cases e : l = k
        · rw [e]; exact ⟨Int32.le_refl _, fun z => by omega⟩
        · exact absurd cl (i2 l (by omega) ol)
      · by_cases q : (C k).1 = -1 ∨ co k < (C k).2
        · refine Or.inr ⟨k, by omega, hs1 k hk' o.1 o.2 q, o.2, o.1, fun l hl ol cl => ?_⟩
          by_cases e : l = k
          · rw [e]; exact ⟨Int32.le_refl _, fun z => by omega⟩
          · rw [i2] at q
            rcases q with q | q
            · exact absurd q (nI_neg1 (by omega))
            · have : co k < co l := Int32.lt_of_lt_of_le q (i4 l (by omega) ol cl).1
              exact ⟨Int32.le_of_lt this, fun _ => this⟩
        · refine Or.inr ⟨i, by omega, (hs2 k hk' (fun z => q z.2.2)).trans i2, i3, i5, fun l hl ol cl => ?_⟩
          by_cases e : l = k
          · subst e
            rw [i2] at q
            exact ⟨Int32.not_lt.mp (fun w => q (Or.inr w)), fun w => by omega⟩
          · exact i4 l (by omega) ol cl
    · have e := hs2 k hk' (fun z => o ⟨z.1, z.2.1⟩)
      rw [e]
      rcases ih (by omega) with ⟨i1, i2⟩ | ⟨i, i1, i2, i3, i5, i4⟩
      · exact Or.inl ⟨i1, fun i h oi ci => by
          by_cases e : i = k
          · rw [e] at oi ci; exact o ⟨ci, oi⟩
          · exact i2 i (by omega) oi ci⟩
      · refine Or.inr ⟨i, by omega, i2, i3, i5, fun l hl ol cl => ?_⟩
        by_cases e : l = k
        · rw [e] at ol cl; exact absurd ⟨cl, ol⟩ o
        · exact i4 l (by omega) ol cl
end
end RELH

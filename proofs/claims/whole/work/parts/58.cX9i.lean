/-! SalaryCapLedgerModel: words and numbers, beside the reader of the class -/
section CX9i
variable {V : q_En} {h : q_H} {z : Option Nat} {Kx : q_KX}
theorem tkm_inj {k : Int32} (h : 0 ≤ k ∧ k ≤ 4) : (tkm k = 2 ↔ k = 1) ∧ (tkm k = 3 ↔ k = 2) ∧ (tkm k = 4 ↔ k = 3) ∧ (tkm k = 0 ↔ k = 0) := by
  obtain ⟨n, hn, rfl⟩ := nI_of2 (M := 4) (n := 4) rfl (Int32.not_lt.mpr h.1) h.2
  exact (by decide : ∀ n, n ≤ 4 → (tkm (nI n) = 2 ↔ nI n = 1) ∧ (tkm (nI n) = 3 ↔ nI n = 2) ∧ (tkm (nI n) = 4 ↔ nI n = 3) ∧ (tkm (nI n) = 0 ↔ nI n = 0)) n hn
theorem cpl.tx {M M' : q_Mo} {f : Nat → Int32} {r : q_Rd} (hc : cpl M f r) (e2 : M'.2.2 5 = M.2.2 5) (e1 : ∀ k, 17 ≤ k → k ≤ 23 → M'.1 k = M.1 k) : cpl M' f r := by
  obtain ⟨c1, c2, c3, c4, c5, c6, c7, c8⟩ := hc
  exact ⟨c1, fun k hk => by rw [e2]; exact c2 k hk, by rw [e1 17 (by decide) (by decide)]; exact c3, by rw [e1 22 (by decide) (by decide)]; exact c4, by rw [e1 23 (by decide) (by decide)]; exact c5, c6, c7, fun e => by rw [e1 18 (by decide) (by decide), e1 19 (by decide) (by decide), e1 20 (by decide) (by decide), e1 21 (by decide) (by decide)]; exact c8 e⟩
/-- behind an error, back from what the class does not do -/
theorem cpl_un {M : q_Mo} {f : Nat → Int32} {r r' : q_Rd} (hc : cpl M f (rd_tok f r)) (e : ¬ r.ec = 0) (h1 : r'.ec = r.ec) (h2 : r'.ea = r.ea) (h3 : r'.ln = r.ln) (h4 : rd_ok r') (h5 : 0 ≤ r'.kd ∧ r'.kd ≤ 4) : cpl M f r' := by
  obtain ⟨t1, t2, t3, t4, t5⟩ := rd_tok_ec (f := f) (r := r)
  exact cpl_bad hc (fun z => e (t1.symm.trans z)) (h1.trans t1.symm) (h2.trans t2.symm) (h3.trans t4.symm) h4 h5
theorem rd_fail_kd {r : q_Rd} {c p : Int32} (h : 0 ≤ r.kd ∧ r.kd ≤ 4) : 0 ≤ (rd_fail r c p).kd ∧ (rd_fail r c p).kd ≤ 4 := by
  unfold rd_fail; split
  · exact h
  · exact h
theorem rd_fail_ne {r : q_Rd} {c p : Int32} (hc : ¬ c = 0) : ¬ (rd_fail r c p).ec = 0 := fun e => rd_fail_ec hc e
theorem rd_semi_kd {f : Nat → Int32} {r : q_Rd} (h : 0 ≤ r.kd ∧ r.kd ≤ 4) : 0 ≤ (rd_semi f r).kd ∧ (rd_semi f r).kd ≤ 4 := by
  unfold rd_semi; split
  · exact rd_tok_kd
  · exact rd_fail_kd h
theorem rd_semi_b {f : Nat → Int32} {r : q_Rd} (e : ¬ r.ec = 0) : (rd_semi f r).ec = r.ec ∧ (rd_semi f r).ea = r.ea := by
  unfold rd_semi; split
  · exact ⟨rd_tok_ec.1, rd_tok_ec.2.1⟩
  · rw [rd_fail_b (rd_bad_ne e)]; exact ⟨rfl, rfl⟩
theorem rd_semi_0 {f : Nat → Int32} {r : q_Rd} (e : (rd_semi f r).ec = 0) : r.ec = 0 := Classical.byContradiction fun z => z ((rd_semi_b z).1.symm.trans e)
theorem rd_is_b {f : Nat → Int32} {r : q_Rd} {i : Nat} (e : ¬ r.ec = 0) : rd_is f r i = false := decide_eq_false (fun z => e z.1)
theorem rd_word_b {f : Nat → Int32} {r : q_Rd} {i : Nat} (e : ¬ r.ec = 0) : rd_word f r i = r := by
  unfold rd_word; rw [if_neg (by rw [rd_is_b e]; decide), rd_fail_b (rd_bad_ne e)]
theorem rd_word_0 {f : Nat → Int32} {r : q_Rd} {i : Nat} (e : (rd_word f r i).ec = 0) : r.ec = 0 := Classical.byContradiction fun z => z ((congrArg q_Rd.ec (rd_word_b (f := f) (i := i) z)).symm.trans e)
theorem rd_nb_b {f : Nat → Int32} {r : q_Rd} {lo hi : Int32} (e : ¬ r.ec = 0) : rd_nb f r lo hi = (lo, r) := by
  unfold rd_nb; rw [if_pos (rd_bad_ne e)]
theorem rd_nb_0 {f : Nat → Int32} {r : q_Rd} {lo hi : Int32} (e : (rd_nb f r lo hi).2.ec = 0) : r.ec = 0 := Classical.byContradiction fun z => z ((congrArg (fun q => q_Rd.ec q.2) (rd_nb_b (f := f) (lo := lo) (hi := hi) z)).symm.trans e)
theorem rd_tok_na {f : Nat → Int32} {r : q_Rd} {x : Int32} : rd_tok f (r.ec, r.ea, r.ct, r.ln, r.en, r.kd, r.st, r.vl, x) = ((rd_tok f r).ec, (rd_tok f r).ea, (rd_tok f r).ct, (rd_tok f r).ln, (rd_tok f r).en, (rd_tok f r).kd, (rd_tok f r).st, (rd_tok f r).vl, x) := by
  have hs : rd_s f (r.ec, r.ea, r.ct, r.ln, r.en, r.kd, r.st, r.vl, x) = rd_s f r := rfl
  unfold rd_tok
  rw [hs]
  by_cases h1 : r.ln ≤ rd_s f r
  · rw [if_pos h1, if_pos (show q_Rd.ln (r.ec, r.ea, r.ct, r.ln, r.en, r.kd, r.st, r.vl, x) ≤ rd_s f r from h1)]
  · rw [if_neg h1, if_neg (show ¬ q_Rd.ln (r.ec, r.ea, r.ct, r.ln, r.en, r.kd, r.st, r.vl, x) ≤ rd_s f r from h1)]
    by_cases h2 : ch_let (f (rd_s f r)) = true
    · rw [if_pos h2, if_pos h2]
    · rw [if_neg h2, if_neg h2]
      by_cases h3 : ch_dig (f (rd_s f r)) = true
      · rw [if_pos h3, if_pos h3]; rfl
      · rw [if_neg h3, if_neg h3]
theorem cpl_na {M : q_Mo} {f : Nat → Int32} {r : q_Rd} {x : Int32} (hc : cpl M f r) : cpl M f (r.ec, r.ea, r.ct, r.ln, r.en, r.kd, r.st, r.vl, x) := hc
theorem mX9_isWord {a : Nat} {M : q_Mo} {f : Nat → Int32} {r : q_Rd} {i : Nat} {P : Int32 → q_H → Option Nat → Prop} (hi : i < 5) (hM : isM h a M) (hc : cpl M f r) (hk : P (q_b (rd_is f r i)) h z) : QMi V iX9_isWord [.ref a, .ref (e_K V i)] h z P Kx := by
  have h9 := q_sn_9 i hi
  obtain ⟨c1, c2, c3, c4x, c5x, c6, c7, c8⟩ := hc
  by_cases e0 : r.ec = 0
  · obtain ⟨g1, g2, g3, g4⟩ := c8 e0
    have hen := c6.1
    have hln := c6.2
    refine eX9_isWord ?_
    refine wX9_isWord_0 ?_
    refine wX9_isWord_1 hM.c (mX9_isFine hM ?_)
    refine wX9_isWord_4 (fun c4 => absurd c4 (by rw [show M.1 22 = 0 from c4x.trans e0]; decide)) (fun c4 => ?_)
    refine wX9_isWord_7 ?_
    refine wX9_isWord_8 hM.c ?_
    refine wX9_isWord_11 ?_
    refine wX9_isWord_12 (fun c12 => ?_) (fun c12 => ?_)
    · refine wX9_isWord_31 ?_
      refine wX9_isWord_32  ?_
      first
        | (have q9 : ¬ M.1 18 - M.1 19 = nI (q_sn i) := c28
           have q8 : ¬ r.en - r.st = q_sn i := fun z => q9 (by rw [g1, g2, nI_sb hen, z])
           exact q_cv (by rw [rd_is, decide_eq_false (fun z => q8 z.2.2.1)]; rfl) hk)
        | (have q9 : ¬ M.1 20 = 2 := c12
           have q8 : ¬ r.kd = 1 := fun z => q9 (by rw [g3]; exact (tkm_inj c7).1.mpr z)
           exact q_cv (by rw [rd_is, decide_eq_false (fun z => q8 z.2.1)]; rfl) hk)
    · refine wX9_isWord_15 ?_
      refine wX9_isWord_16 hM.c ?_
      refine wX9_isWord_19 ?_
      refine wX9_isWord_20 hM.c ?_
      refine wX9_isWord_23 ?_
      refine wX9_isWord_24 ?_
      refine wX9_isWord_25  hi (mJ0_length_8abf5 hi ?_)
      refine wX9_isWord_28 (fun c28 => ?_) (fun c28 => ?_)
      · refine wX9_isWord_33 ?_
        refine wX9_isWord_34 ?_
        have k1 : r.kd = 1 := (tkm_inj c7).1.mp (g3.symm.trans c12)
        have k2 : r.en - r.st = q_sn i := by
          have q : M.1 18 - M.1 19 = nI (q_sn i) := c28
          rw [g1, g2, nI_sb hen] at q
          exact nI_inj (by omega) (by omega) q
        refine q_for (P := fun t => (∀ k, k < t → f (r.st + k) = q_sc i k) → QW V iX9_isWord 35 [some (.ref a), some (.ref (e_K V i)), some (.int (nI t))] [] h z 0 0 (q_Ki P) Kx) (q_sn i) ?_ ?_ (fun k hk => absurd hk (by omega))
        · intro hall
          refine wX9_isWord_35 ?_
          refine wX9_isWord_36 ?_
          refine wX9_isWord_37  hi (mJ0_length_8abf5 hi ?_)
          refine wX9_isWord_40 (fun c40 => ?_) (fun c40 => absurd (nI_le (Nat.le_refl _) (by omega)) c40)
          refine wX9_isWord_70 ?_
          refine wX9_isWord_71  ?_
          exact q_cv (by rw [rd_is, decide_eq_true ⟨e0, k1, k2, hall⟩]; rfl) hk
        · intro t hkn ih hall
          refine wX9_isWord_35 ?_
          refine wX9_isWord_36 ?_
          refine wX9_isWord_37  hi (mJ0_length_8abf5 hi ?_)
          refine wX9_isWord_40 (fun c40 => absurd c40 (nI_ge hkn (by omega))) (fun c40 => ?_)
          refine wX9_isWord_43 ?_
          refine wX9_isWord_44 hM.c ?_
          refine wX9_isWord_47 ?_
          refine wX9_isWord_48 hM.c ?_
          refine wX9_isWord_51 ?_
          refine wX9_isWord_52 ?_
          rw [g2, nI_add]
          refine wX9_isWord_53 hM.a5 rfl (show r.st + t < 900 by omega) (by decide) ?_
          rw [(c2 (r.st + t) (by omega)).2]
          refine wX9_isWord_54 ?_
          refine wX9_isWord_55 ?_
          refine wX9_isWord_56  hi (mJ0_charAt_5068e hi hkn ?_)
          refine wX9_isWord_59 (fun c59 => ?_) (fun c59 => ?_)
          · refine wX9_isWord_64 ?_
            refine wX9_isWord_67 ?_
            refine q_ls ?_ (ih (fun k hk => ?_))
            · rw [nI_1]
            · by_cases e : k = t
              · subst e; exact (bt_sc (c2 (r.st + k) (by omega)).1 i hi k hkn).mp c59
              · exact hall k (by omega)
          · refine wX9_isWord_62 ?_
            refine wX9_isWord_63  ?_
            have q8 : ¬ f (r.st + t) = q_sc i t := fun z => c59 ((bt_sc (c2 (r.st + t) (by omega)).1 i hi t hkn).mpr z)
            exact q_cv (by rw [rd_is, decide_eq_false (fun z => q8 (z.2.2.2 t hkn))]; rfl) hk
      · refine wX9_isWord_31 ?_
        refine wX9_isWord_32  ?_
        first
          | (have q9 : ¬ M.1 18 - M.1 19 = nI (q_sn i) := c28
             have q8 : ¬ r.en - r.st = q_sn i := fun z => q9 (by rw [g1, g2, nI_sb hen, z])
             exact q_cv (by rw [rd_is, decide_eq_false (fun z => q8 z.2.2.1)]; rfl) hk)
          | (have q9 : ¬ M.1 20 = 2 := c12
             have q8 : ¬ r.kd = 1 := fun z => q9 (by rw [g3]; exact (tkm_inj c7).1.mpr z)
             exact q_cv (by rw [rd_is, decide_eq_false (fun z => q8 z.2.1)]; rfl) hk)
  · refine eX9_isWord ?_
    refine wX9_isWord_0 ?_
    refine wX9_isWord_1 hM.c (mX9_isFine hM ?_)
    refine wX9_isWord_4 (fun c4 => ?_) (fun c4 => absurd (by rw [show M.1 22 = r.ec from c4x, decide_eq_false e0]; rfl) c4)
    refine wX9_isWord_31 ?_
    refine wX9_isWord_32  ?_
    exact q_cv (by rw [rd_is_b e0]; rfl) hk
theorem mX9_expect {a : Nat} {M : q_Mo} {f : Nat → Int32} {r : q_Rd} {i : Nat} {P : q_H → Option Nat → Prop} (hi : i < 5) (hM : isM h a M) (hc : cpl M f r) (hk : ∀ h2 M2, isM h2 a M2 → q_tx M M2 → cpl M2 f (rd_word f r i) → q_out a 13 h h2 → P h2 z) : QMv V iX9_expect [.ref a, .ref (e_K V i)] h z P Kx := by
  have ho : q_out a 13 h h := q_out.refl
  refine eX9_expect ?_
  refine wX9_expect_0 ?_
  refine wX9_expect_1 ?_
  refine wX9_expect_2 hM.c (mX9_isWord hi hM hc ?_)
  refine wX9_expect_5 (fun c5 => ?_) (fun c5 => ?_)
  · refine wX9_expect_13 ?_
    refine wX9_expect_14 hM.c (mX9_next hM hc (fun h3 M3 hM T3 hc3 ho2 => ?_))
    have ho := ho.trans ho2
    refine wX9_expect_17  ?_
    first
      | (have q9 := q_b0 c5
         refine hk _ _ hM (T.t T3) ?_ ho
         have hne := rd_fail_ne (r := r) (c := 1) (p := nI r.st) (by decide)
         have e9 : rd_word f r i = rd_fail r 1 (nI r.st) := by unfold rd_word; rw [if_neg (by rw [q9]; decide)]
         rw [e9]
         exact cpl_un hc3 hne rfl rfl rfl (rd_fail_ok hc.2.2.2.2.2.1).1 (rd_fail_kd hc.2.2.2.2.2.2.1))
      | (have q9 := q_b1 c5
         have e9 : rd_word f r i = rd_tok f r := by unfold rd_word; rw [if_pos q9]
         refine hk _ _ hM T3 (by rw [e9]; exact hc3) ho)
  · refine wX9_expect_8 ?_
    refine wX9_expect_9 ?_
    refine wX9_expect_10 hM.c (mX9_fail hM hc (by decide) (fun h2 M2 hM T hc2 ho2 => ?_))
    have ho := ho.trans ho2
    refine wX9_expect_13 ?_
    refine wX9_expect_14 hM.c (mX9_next hM hc2 (fun h3 M3 hM T3 hc3 ho2 => ?_))
    have ho := ho.trans ho2
    refine wX9_expect_17  ?_
    first
      | (have q9 := q_b0 c5
         refine hk _ _ hM (T.t T3) ?_ ho
         have hne := rd_fail_ne (r := r) (c := 1) (p := nI r.st) (by decide)
         have e9 : rd_word f r i = rd_fail r 1 (nI r.st) := by unfold rd_word; rw [if_neg (by rw [q9]; decide)]
         rw [e9]
         exact cpl_un hc3 hne rfl rfl rfl (rd_fail_ok hc.2.2.2.2.2.1).1 (rd_fail_kd hc.2.2.2.2.2.2.1))
      | (have q9 := q_b1 c5
         have e9 : rd_word f r i = rd_tok f r := by unfold rd_word; rw [if_pos q9]
         refine hk _ _ hM T3 (by rw [e9]; exact hc3) ho)
theorem mX9_expectSemicolon {a : Nat} {M : q_Mo} {f : Nat → Int32} {r : q_Rd} {P : q_H → Option Nat → Prop} (hM : isM h a M) (hc : cpl M f r) (hk : ∀ h2 M2, isM h2 a M2 → q_tx M M2 → cpl M2 f (rd_semi f r) → q_out a 13 h h2 → P h2 z) : QMv V iX9_expectSemicolon [.ref a] h z P Kx := by
  have ho : q_out a 13 h h := q_out.refl
  refine eX9_expectSemicolon ?_
  refine wX9_expectSemicolon_0 ?_
  refine wX9_expectSemicolon_1 hM.c ?_
  refine wX9_expectSemicolon_4 ?_
  refine wX9_expectSemicolon_5 (fun c5 => ?_) (fun c5 => ?_)
  · refine wX9_expectSemicolon_13 ?_
    refine wX9_expectSemicolon_14 hM.c (mX9_next hM hc (fun h3 M3 hM T3 hc3 ho2 => ?_))
    have ho := ho.trans ho2
    refine wX9_expectSemicolon_17  ?_
    first
      | (have q9 : ¬ M.1 20 = 4 := c5
         refine hk _ _ hM (T.t T3) ?_ ho
         by_cases e0 : r.ec = 0
         · have k3 : ¬ r.kd = 3 := fun z => q9 (((hc.2.2.2.2.2.2.2 e0).2.2.1).trans ((tkm_inj hc.2.2.2.2.2.2.1).2.2.1.mpr z))
           have e9 : rd_semi f r = rd_fail r 1 (nI r.st) := by unfold rd_semi; rw [if_neg k3]
           rw [e9]
           exact cpl_un hc3 (rd_fail_ne (by decide)) rfl rfl rfl (rd_fail_ok hc.2.2.2.2.2.1).1 (rd_fail_kd hc.2.2.2.2.2.2.1)
         · have hb := rd_fail_b (c := 1) (p := nI r.st) (rd_bad_ne e0)
           rw [hb] at hc3
           exact cpl_un hc3 e0 (rd_semi_b e0).1 (rd_semi_b e0).2 (rd_semi_ok hc.2.2.2.2.2.1).2 (rd_semi_ok hc.2.2.2.2.2.1).1 (rd_semi_kd hc.2.2.2.2.2.2.1))
      | (have q9 : M.1 20 = 4 := c5
         refine hk _ _ hM T3 ?_ ho
         by_cases e0 : r.ec = 0
         · have k3 : r.kd = 3 := (tkm_inj hc.2.2.2.2.2.2.1).2.2.1.mp (((hc.2.2.2.2.2.2.2 e0).2.2.1).symm.trans q9)
           have e9 : rd_semi f r = rd_tok f r := by unfold rd_semi; rw [if_pos k3]
           rw [e9]; exact hc3
         · exact cpl_un hc3 e0 (rd_semi_b e0).1 (rd_semi_b e0).2 (rd_semi_ok hc.2.2.2.2.2.1).2 (rd_semi_ok hc.2.2.2.2.2.1).1 (rd_semi_kd hc.2.2.2.2.2.2.1))
  · refine wX9_expectSemicolon_8 ?_
    refine wX9_expectSemicolon_9 ?_
    refine wX9_expectSemicolon_10 hM.c (mX9_fail hM hc (by decide) (fun h2 M2 hM T hc2 ho2 => ?_))
    have ho := ho.trans ho2
    refine wX9_expectSemicolon_13 ?_
    refine wX9_expectSemicolon_14 hM.c (mX9_next hM hc2 (fun h3 M3 hM T3 hc3 ho2 => ?_))
    have ho := ho.trans ho2
    refine wX9_expectSemicolon_17  ?_
    first
      | (have q9 : ¬ M.1 20 = 4 := c5
         refine hk _ _ hM (T.t T3) ?_ ho
         by_cases e0 : r.ec = 0
         · have k3 : ¬ r.kd = 3 := fun z => q9 (((hc.2.2.2.2.2.2.2 e0).2.2.1).trans ((tkm_inj hc.2.2.2.2.2.2.1).2.2.1.mpr z))
           have e9 : rd_semi f r = rd_fail r 1 (nI r.st) := by unfold rd_semi; rw [if_neg k3]
           rw [e9]
           exact cpl_un hc3 (rd_fail_ne (by decide)) rfl rfl rfl (rd_fail_ok hc.2.2.2.2.2.1).1 (rd_fail_kd hc.2.2.2.2.2.2.1)
         · have hb := rd_fail_b (c := 1) (p := nI r.st) (rd_bad_ne e0)
           rw [hb] at hc3
           exact cpl_un hc3 e0 (rd_semi_b e0).1 (rd_semi_b e0).2 (rd_semi_ok hc.2.2.2.2.2.1).2 (rd_semi_ok hc.2.2.2.2.2.1).1 (rd_semi_kd hc.2.2.2.2.2.2.1))
      | (have q9 : M.1 20 = 4 := c5
         refine hk _ _ hM T3 ?_ ho
         by_cases e0 : r.ec = 0
         · have k3 : r.kd = 3 := (tkm_inj hc.2.2.2.2.2.2.1).2.2.1.mp (((hc.2.2.2.2.2.2.2 e0).2.2.1).symm.trans q9)
           have e9 : rd_semi f r = rd_tok f r := by unfold rd_semi; rw [if_pos k3]
           rw [e9]; exact hc3
         · exact cpl_un hc3 e0 (rd_semi_b e0).1 (rd_semi_b e0).2 (rd_semi_ok hc.2.2.2.2.2.1).2 (rd_semi_ok hc.2.2.2.2.2.1).1 (rd_semi_kd hc.2.2.2.2.2.2.1))
/-- reading a number, told by what the class does -/
theorem rd_nb_kd {f : Nat → Int32} {r : q_Rd} {lo hi : Int32} (h : 0 ≤ r.kd ∧ r.kd ≤ 4) : 0 ≤ (rd_nb f r lo hi).2.kd ∧ (rd_nb f r lo hi).2.kd ≤ 4 := by
  unfold rd_nb; split
  · exact h
  · split
    · split
      · exact rd_fail_kd h
      · exact rd_tok_kd
    · exact rd_fail_kd h
theorem mX9_read {a : Nat} {M : q_Mo} {f : Nat → Int32} {r : q_Rd} {lo hi : Int32} {P : Int32 → q_H → Option Nat → Prop} (hM : isM h a M) (hc : cpl M f r) (hk : ∀ h2 M2 v, isM h2 a M2 → q_tx M M2 → cpl M2 f (rd_nb f r lo hi).2 → ((rd_nb f r lo hi).2.ec = 0 → v = (rd_nb f r lo hi).1) → q_out a 13 h h2 → P v h2 z) : QMi V iX9_read [.ref a, .int lo, .int hi] h z P Kx := by
  have ho : q_out a 13 h h := q_out.refl
  have hj : ∀ hh M1 r1, isM hh a M1 → q_tx M M1 → cpl M1 f r1 → (r1.ec = 0 → r1 = r ∧ rd_nb f r lo hi = (r.vl, rd_tok f (r.ec, r.ea, r.ct, r.ln, r.en, r.kd, r.st, r.vl, nI r.st)) ∧ M1.1 21 = r.vl) → (¬ r1.ec = 0 → r1.ec = (rd_nb f r lo hi).2.ec ∧ r1.ea = (rd_nb f r lo hi).2.ea) → r1.ln = r.ln → q_out a 13 h hh → QW V iX9_read 36 [some (.ref a), some (.int lo), some (.int hi), none] [] hh z 0 0 (q_Ki P) Kx := by
    intro hh M1 r1 hM T hc1 k1 k2 k3 ho
    refine wX9_read_36 ?_
    refine wX9_read_37 hM.c ?_
    refine wX9_read_40 ?_
    refine wX9_read_41 ?_
    refine wX9_read_42 hM.c (mX9_next hM hc1 (fun h3 M3 hM T3 hc3 ho2 => ?_))
    have ho := ho.trans ho2
    refine wX9_read_45 ?_
    refine wX9_read_46  ?_
    by_cases e0 : r1.ec = 0
    · obtain ⟨q1, q2, q3⟩ := k1 e0
      subst q1
      refine hk _ _ _ hM (T.t T3) ?_ (fun _ => by rw [q2, q3]) ho
      rw [q2, rd_tok_na]; exact cpl_na hc3
    · obtain ⟨q1, q2⟩ := k2 e0
      refine hk _ _ _ hM (T.t T3) ?_ (fun z => absurd (q1.trans z) e0) ho
      exact cpl_un hc3 e0 q1.symm q2.symm ((rd_nb_ok hc.2.2.2.2.2.1).2.trans k3.symm) (rd_nb_ok hc.2.2.2.2.2.1).1 (rd_nb_kd hc.2.2.2.2.2.2.1)
  have c4x := hc.2.2.2.1
  have c7x := hc.2.2.2.2.2.2.1
  have c8x := hc.2.2.2.2.2.2.2
  refine eX9_read ?_
  refine wX9_read_0 ?_
  refine wX9_read_1 hM.c ?_
  refine wX9_read_4 ?_
  refine wX9_read_5 (fun c5 => ?_) (fun c5 => ?_)
  · refine wX9_read_16 ?_
    refine wX9_read_17 hM.c ?_
    refine wX9_read_20 ?_
    refine wX9_read_21 ?_
    refine wX9_read_22 ?_
    refine wX9_read_23 ?_
    refine wX9_read_24 ?_
    refine wX9_read_25 (mX9_isIn ?_)
    refine wX9_read_28 (fun c28 => ?_) (fun c28 => ?_)
    · by_cases e0 : r.ec = 0
      · obtain ⟨g1, g2, g3, g4⟩ := c8x e0
        have k2 : r.kd = 2 := (tkm_inj c7x).2.1.mp (g3.symm.trans (show M.1 20 = 3 from c5))
        have hr : rg r.vl lo hi = true := by rw [← g4 k2, ← rgL_rg]; exact q_b1 c28
        have hr2 := of_decide_eq_true hr
        have e9 : rd_nb f r lo hi = (r.vl, rd_tok f (r.ec, r.ea, r.ct, r.ln, r.en, r.kd, r.st, r.vl, nI r.st)) := by
          unfold rd_nb; rw [if_neg (by rw [rd_bad_e e0]; decide), if_pos k2, if_neg (fun z => z.elim hr2.1 (fun z => z hr2.2))]
        exact hj _ _ r hM q_tx.r hc (fun _ => ⟨rfl, e9, g4 k2⟩) (fun z => absurd e0 z) rfl ho
      · have hb := fun c p => rd_fail_b (c := c) (p := p) (rd_bad_ne e0)
        have hn := rd_nb_b (f := f) (lo := lo) (hi := hi) e0
        exact hj _ _ r hM q_tx.r hc (fun z => absurd z e0) (fun _ => by rw [hn]; exact ⟨rfl, rfl⟩) rfl ho
    · refine wX9_read_31 ?_
      refine wX9_read_32 ?_
      refine wX9_read_33 hM.c (mX9_fail hM hc (by decide) (fun h2 M2 hM T hc2 ho2 => ?_))
      have ho := ho.trans ho2
      by_cases e0 : r.ec = 0
      · obtain ⟨g1, g2, g3, g4⟩ := c8x e0
        have k2 : r.kd = 2 := (tkm_inj c7x).2.1.mp (g3.symm.trans (show M.1 20 = 3 from c5))
        have hr : rg r.vl lo hi = false := by rw [← g4 k2, ← rgL_rg]; exact q_b0 c28
        have e9 : rd_nb f r lo hi = (lo, rd_fail r 2 (nI r.st)) := by
          unfold rd_nb; rw [if_neg (by rw [rd_bad_e e0]; decide), if_pos k2, if_pos (Classical.byContradiction fun z => by
            rw [not_or, Classical.not_not] at z
            exact (of_decide_eq_false hr) z)]
        exact hj _ _ _ hM T hc2 (fun z => absurd z (rd_fail_ne (by decide))) (fun _ => by rw [e9]; exact ⟨rfl, rfl⟩) (rd_fail_ok hc.2.2.2.2.2.1).2 ho
      · have hb := fun c p => rd_fail_b (c := c) (p := p) (rd_bad_ne e0)
        have hn := rd_nb_b (f := f) (lo := lo) (hi := hi) e0
        rw [hb] at hc2
        exact hj _ _ r hM T hc2 (fun z => absurd z e0) (fun _ => by rw [hn]; exact ⟨rfl, rfl⟩) rfl ho
  · refine wX9_read_8 ?_
    refine wX9_read_9 ?_
    refine wX9_read_10 hM.c (mX9_fail hM hc (by decide) (fun h2 M2 hM T hc2 ho2 => ?_))
    have ho := ho.trans ho2
    refine wX9_read_13 ?_
    by_cases e0 : r.ec = 0
    · obtain ⟨g1, g2, g3, g4⟩ := c8x e0
      have k2 : ¬ r.kd = 2 := fun z => c5 (show M.1 20 = 3 from g3.trans ((tkm_inj c7x).2.1.mpr z))
      have e9 : rd_nb f r lo hi = (lo, rd_fail r 1 (nI r.st)) := by unfold rd_nb; rw [if_neg (by rw [rd_bad_e e0]; decide), if_neg k2]
      exact hj _ _ _ hM T hc2 (fun z => absurd z (rd_fail_ne (by decide))) (fun _ => by rw [e9]; exact ⟨rfl, rfl⟩) (rd_fail_ok hc.2.2.2.2.2.1).2 ho
    · have hb := fun c p => rd_fail_b (c := c) (p := p) (rd_bad_ne e0)
      have hn := rd_nb_b (f := f) (lo := lo) (hi := hi) e0
      rw [hb] at hc2
      exact hj _ _ r hM T hc2 (fun z => absurd z e0) (fun _ => by rw [hn]; exact ⟨rfl, rfl⟩) rfl ho
/-- all is the same but the reading's own scalars, one more, and one row of ints -/
def q_tz (x y : Nat) (M M' : q_Mo) : Prop := M'.2.1 = M.2.1 ∧ (∀ k, ¬ k = x → M'.2.2 k = M.2.2 k) ∧ ∀ k, ¬ (18 ≤ k ∧ k ≤ 23) → ¬ k = y → M'.1 k = M.1 k
theorem q_tz.r {x y : Nat} {M : q_Mo} : q_tz x y M M := ⟨rfl, fun _ _ => rfl, fun _ _ _ => rfl⟩
theorem q_tz.t {x y : Nat} {M M1 M2 : q_Mo} (h1 : q_tz x y M M1) (h2 : q_tz x y M1 M2) : q_tz x y M M2 := ⟨h2.1.trans h1.1, fun k hk => (h2.2.1 k hk).trans (h1.2.1 k hk), fun k hk hy => (h2.2.2 k hk hy).trans (h1.2.2 k hk hy)⟩
theorem q_tz.x {x y : Nat} {M M1 M2 : q_Mo} (h1 : q_tz x y M M1) (h2 : q_tx M1 M2) : q_tz x y M M2 := ⟨(congrArg Prod.fst h2.1).trans h1.1, fun k hk => (congrFun (congrArg Prod.snd h2.1) k).trans (h1.2.1 k hk), fun k hk hy => (h2.2 k hk).trans (h1.2.2 k hk hy)⟩
theorem q_tz.i {x y : Nat} {M M1 : q_Mo} {g : Nat → Int32} (h1 : q_tz x y M M1) : q_tz x y M (mIr M1 x g) := ⟨h1.1, fun k hk => (if_neg hk).trans (h1.2.1 k hk), h1.2.2⟩
theorem q_tz.s {x y : Nat} {M M1 : q_Mo} {v : Int32} (h1 : q_tz x y M M1) : q_tz x y M (mS M1 y v) := ⟨h1.1, h1.2.1, fun k hk hy => (if_neg hy).trans (h1.2.2 k hk hy)⟩
theorem cpl_i {M : q_Mo} {f : Nat → Int32} {r : q_Rd} {k : Nat} {g : Nat → Int32} (hc : cpl M f r) (hk : ¬ 5 = k) : cpl (mIr M k g) f r := hc.tx (if_neg hk) (fun _ _ _ => rfl)
theorem cpl_s {M : q_Mo} {f : Nat → Int32} {r : q_Rd} {k : Nat} {v : Int32} (hc : cpl M f r) (hk : ¬ (17 ≤ k ∧ k ≤ 23)) : cpl (mS M k v) f r := hc.tx rfl (fun q h1 h2 => upd_n (by omega))
theorem q_tx.g {M M' : q_Mo} (h : q_tx M M') (k j : Nat) : M'.2.2 k j = M.2.2 k j := by rw [h.1]
theorem rd_nb_0Y {f : Nat → Int32} {r : q_Rd} {lo hi : Int32} {Y : Int32 × q_Rd} (hy : rd_nb f r lo hi = Y) (e : Y.2.ec = 0) : r.ec = 0 := by subst hy; exact rd_nb_0 e
theorem rd_semi_0Y {f : Nat → Int32} {r Y : q_Rd} (hy : rd_semi f r = Y) (e : Y.ec = 0) : r.ec = 0 := by subst hy; exact rd_semi_0 e
theorem rd_word_0Y {f : Nat → Int32} {r Y : q_Rd} {i : Nat} (hy : rd_word f r i = Y) (e : Y.ec = 0) : r.ec = 0 := by subst hy; exact rd_word_0 e
theorem mX9_readY {a : Nat} {M : q_Mo} {f : Nat → Int32} {r : q_Rd} {lo hi : Int32} {Y : Int32 × q_Rd} {P : Int32 → q_H → Option Nat → Prop} (hy : rd_nb f r lo hi = Y) (hM : isM h a M) (hc : cpl M f r) (hk : ∀ h2 M2 v, isM h2 a M2 → q_tx M M2 → cpl M2 f Y.2 → (Y.2.ec = 0 → v = Y.1) → q_out a 13 h h2 → P v h2 z) : QMi V iX9_read [.ref a, .int lo, .int hi] h z P Kx := by
  subst hy; exact mX9_read hM hc hk
theorem mX9_expectY {a : Nat} {M : q_Mo} {f : Nat → Int32} {r Y : q_Rd} {i : Nat} {P : q_H → Option Nat → Prop} (hy : rd_word f r i = Y) (hi : i < 5) (hM : isM h a M) (hc : cpl M f r) (hk : ∀ h2 M2, isM h2 a M2 → q_tx M M2 → cpl M2 f Y → q_out a 13 h h2 → P h2 z) : QMv V iX9_expect [.ref a, .ref (e_K V i)] h z P Kx := by
  subst hy; exact mX9_expect hi hM hc hk
theorem mX9_semiY {a : Nat} {M : q_Mo} {f : Nat → Int32} {r Y : q_Rd} {P : q_H → Option Nat → Prop} (hy : rd_semi f r = Y) (hM : isM h a M) (hc : cpl M f r) (hk : ∀ h2 M2, isM h2 a M2 → q_tx M M2 → cpl M2 f Y → q_out a 13 h h2 → P h2 z) : QMv V iX9_expectSemicolon [.ref a] h z P Kx := by
  subst hy; exact mX9_expectSemicolon hM hc hk
theorem mX9_readLeague {a : Nat} {M : q_Mo} {f : Nat → Int32} {r : q_Rd} {P : q_H → Option Nat → Prop} (hM : isM h a M) (hc : cpl M f r) (hk : ∀ h2 M2, isM h2 a M2 → q_tz 6 18 M M2 → cpl M2 f (rd_l6 f r) → ((rd_l6 f r).ec = 0 → M2.2.2 6 0 = (rd_l1 f r).1 ∧ M2.2.2 6 1 = (rd_l2 f r).1 ∧ M2.2.2 6 2 = (rd_l3 f r).1 ∧ M2.2.2 6 3 = (rd_l4 f r).1 ∧ M2.2.2 6 4 = (rd_l5 f r).1) → q_out a 13 h h2 → P h2 z) : QMv V iX9_readLeague [.ref a] h z P Kx := by
  have ho : q_out a 13 h h := q_out.refl
  have TZ : q_tz 6 18 M M := q_tz.r
  refine eX9_readLeague ?_
  refine wX9_readLeague_0 ?_
  refine wX9_readLeague_1 ?_
  refine wX9_readLeague_3 hM.c (mX9_expect (by decide) hM hc (fun h2 M0 hM T0 hc ho2 => ?_))
  have ho := ho.trans ho2
  have TZ := TZ.x T0
  refine wX9_readLeague_6 ?_
  refine wX9_readLeague_7 hM.c ?_
  refine wX9_readLeague_10 ?_
  refine wX9_readLeague_11 ?_
  refine wX9_readLeague_12 ?_
  refine wX9_readLeague_13 ?_
  refine wX9_readLeague_15 hM.c (mX9_readY (Y := rd_l1 f r) rfl hM hc (fun h2 M1 v0 hM T1 hc hv0 ho2 => ?_))
  have ho := ho.trans ho2
  have TZ := TZ.x T1
  refine wX9_readLeague_18 hM.a6 (j := 0) rfl (by decide) (by decide) ?_
  refine q_nI (k := 6) (by decide) hM ho (fun h2 hM ho => ?_)
  have hc := cpl_i (k := 6) (g := upd (M1.2.2 6) 0 v0) hc (by decide)
  have TZ := q_tz.i (g := upd (M1.2.2 6) 0 v0) TZ
  have d0 : (mIr M1 6 (upd (M1.2.2 6) 0 v0)).2.2 6 0 = v0 := (show upd (M1.2.2 6) 0 v0 0 = v0 from upd_s)
  refine wX9_readLeague_19 ?_
  refine wX9_readLeague_20 hM.c ?_
  refine wX9_readLeague_23 ?_
  refine wX9_readLeague_24 ?_
  refine wX9_readLeague_25 ?_
  refine wX9_readLeague_26 ?_
  refine wX9_readLeague_28 hM.c (mX9_readY (Y := rd_l2 f r) rfl hM hc (fun h2 M2 v1 hM T2 hc hv1 ho2 => ?_))
  have ho := ho.trans ho2
  have TZ := TZ.x T2
  have d0 := (T2.g 6 0).trans d0
  refine wX9_readLeague_31 hM.a6 (j := 1) rfl (by decide) (by decide) ?_
  refine q_nI (k := 6) (by decide) hM ho (fun h2 hM ho => ?_)
  have hc := cpl_i (k := 6) (g := upd (M2.2.2 6) 1 v1) hc (by decide)
  have TZ := q_tz.i (g := upd (M2.2.2 6) 1 v1) TZ
  have d0 : (mIr M2 6 (upd (M2.2.2 6) 1 v1)).2.2 6 0 = v0 := d0
  have d1 : (mIr M2 6 (upd (M2.2.2 6) 1 v1)).2.2 6 1 = v1 := (show upd (M2.2.2 6) 1 v1 1 = v1 from upd_s)
  refine wX9_readLeague_32 ?_
  refine wX9_readLeague_33 hM.c ?_
  refine wX9_readLeague_36 ?_
  refine wX9_readLeague_37 ?_
  refine wX9_readLeague_38 ?_
  refine wX9_readLeague_39 ?_
  refine wX9_readLeague_42 hM.c (mX9_readY (Y := rd_l3 f r) rfl hM hc (fun h2 M3 v2 hM T3 hc hv2 ho2 => ?_))
  have ho := ho.trans ho2
  have TZ := TZ.x T3
  have d0 := (T3.g 6 0).trans d0
  have d1 := (T3.g 6 1).trans d1
  refine wX9_readLeague_45 hM.a6 (j := 2) rfl (by decide) (by decide) ?_
  refine q_nI (k := 6) (by decide) hM ho (fun h2 hM ho => ?_)
  have hc := cpl_i (k := 6) (g := upd (M3.2.2 6) 2 v2) hc (by decide)
  have TZ := q_tz.i (g := upd (M3.2.2 6) 2 v2) TZ
  have d0 : (mIr M3 6 (upd (M3.2.2 6) 2 v2)).2.2 6 0 = v0 := d0
  have d1 : (mIr M3 6 (upd (M3.2.2 6) 2 v2)).2.2 6 1 = v1 := d1
  have d2 : (mIr M3 6 (upd (M3.2.2 6) 2 v2)).2.2 6 2 = v2 := (show upd (M3.2.2 6) 2 v2 2 = v2 from upd_s)
  refine wX9_readLeague_46 ?_
  refine wX9_readLeague_47 hM.c ?_
  refine wX9_readLeague_50 ?_
  refine wX9_readLeague_51 ?_
  refine wX9_readLeague_52 ?_
  refine wX9_readLeague_53 ?_
  refine wX9_readLeague_55 hM.c (mX9_readY (Y := rd_l4 f r) rfl hM hc (fun h2 M4 v3 hM T4 hc hv3 ho2 => ?_))
  have ho := ho.trans ho2
  have TZ := TZ.x T4
  have d0 := (T4.g 6 0).trans d0
  have d1 := (T4.g 6 1).trans d1
  have d2 := (T4.g 6 2).trans d2
  refine wX9_readLeague_58 hM.a6 (j := 3) rfl (by decide) (by decide) ?_
  refine q_nI (k := 6) (by decide) hM ho (fun h2 hM ho => ?_)
  have hc := cpl_i (k := 6) (g := upd (M4.2.2 6) 3 v3) hc (by decide)
  have TZ := q_tz.i (g := upd (M4.2.2 6) 3 v3) TZ
  have d0 : (mIr M4 6 (upd (M4.2.2 6) 3 v3)).2.2 6 0 = v0 := d0
  have d1 : (mIr M4 6 (upd (M4.2.2 6) 3 v3)).2.2 6 1 = v1 := d1
  have d2 : (mIr M4 6 (upd (M4.2.2 6) 3 v3)).2.2 6 2 = v2 := d2
  have d3 : (mIr M4 6 (upd (M4.2.2 6) 3 v3)).2.2 6 3 = v3 := (show upd (M4.2.2 6) 3 v3 3 = v3 from upd_s)
  refine wX9_readLeague_59 ?_
  refine wX9_readLeague_60 hM.c ?_
  refine wX9_readLeague_63 ?_
  refine wX9_readLeague_64 ?_
  refine wX9_readLeague_65 ?_
  refine wX9_readLeague_66 ?_
  refine wX9_readLeague_68 hM.c (mX9_readY (Y := rd_l5 f r) rfl hM hc (fun h2 M5 v4 hM T5 hc hv4 ho2 => ?_))
  have ho := ho.trans ho2
  have TZ := TZ.x T5
  have d0 := (T5.g 6 0).trans d0
  have d1 := (T5.g 6 1).trans d1
  have d2 := (T5.g 6 2).trans d2
  have d3 := (T5.g 6 3).trans d3
  refine wX9_readLeague_71 hM.a6 (j := 4) rfl (by decide) (by decide) ?_
  refine q_nI (k := 6) (by decide) hM ho (fun h2 hM ho => ?_)
  have hc := cpl_i (k := 6) (g := upd (M5.2.2 6) 4 v4) hc (by decide)
  have TZ := q_tz.i (g := upd (M5.2.2 6) 4 v4) TZ
  have d0 : (mIr M5 6 (upd (M5.2.2 6) 4 v4)).2.2 6 0 = v0 := d0
  have d1 : (mIr M5 6 (upd (M5.2.2 6) 4 v4)).2.2 6 1 = v1 := d1
  have d2 : (mIr M5 6 (upd (M5.2.2 6) 4 v4)).2.2 6 2 = v2 := d2
  have d3 : (mIr M5 6 (upd (M5.2.2 6) 4 v4)).2.2 6 3 = v3 := d3
  have d4 : (mIr M5 6 (upd (M5.2.2 6) 4 v4)).2.2 6 4 = v4 := (show upd (M5.2.2 6) 4 v4 4 = v4 from upd_s)
  refine wX9_readLeague_72 ?_
  refine wX9_readLeague_73 hM.c (mX9_semiY (Y := rd_l6 f r) rfl hM hc (fun h2 M6 hM T6 hc ho2 => ?_))
  have ho := ho.trans ho2
  have TZ := TZ.x T6
  have d0 := (T6.g 6 0).trans d0
  have d1 := (T6.g 6 1).trans d1
  have d2 := (T6.g 6 2).trans d2
  have d3 := (T6.g 6 3).trans d3
  have d4 := (T6.g 6 4).trans d4
  refine wX9_readLeague_76  ?_
  refine hk _ _ hM TZ hc (fun z => ?_) ho
  have z5 : (rd_l5 f r).2.ec = 0 := rd_semi_0Y (f := f) (Y := rd_l6 f r) rfl z
  have z4 : (rd_l4 f r).2.ec = 0 := rd_nb_0Y (f := f) (Y := rd_l5 f r) (lo := 1) (hi := 99999) rfl z5
  have z3 : (rd_l3 f r).2.ec = 0 := rd_nb_0Y (f := f) (Y := rd_l4 f r) (lo := 0) (hi := 99999) rfl z4
  have z2 : (rd_l2 f r).2.ec = 0 := rd_nb_0Y (f := f) (Y := rd_l3 f r) (lo := 0) (hi := 200) rfl z3
  have z1 : (rd_l1 f r).2.ec = 0 := rd_nb_0Y (f := f) (Y := rd_l2 f r) (lo := 1) (hi := 999999) rfl z2
  exact ⟨d0.trans (hv0 z1), d1.trans (hv1 z2), d2.trans (hv2 z3), d3.trans (hv3 z4), d4.trans (hv4 z5)⟩
def r_dr (M : q_Mo) (t : Int32) : Nat → Int32 := q_ac 0 (fun p => if M.2.2 8 (9 * p) = t then 1 else 0)
theorem mX9_draftRoster {a : Nat} {M : q_Mo} {t : Int32} {P : Int32 → q_H → Option Nat → Prop} (hM : isM h a M) (hk : P (r_dr M t 24) h z) : QMi V iX9_draftRoster [.ref a, .int t] h z P Kx := by
  refine eX9_draftRoster ?_
  refine wX9_draftRoster_0 ?_
  refine wX9_draftRoster_1 ?_
  refine wX9_draftRoster_2 ?_
  refine wX9_draftRoster_3 ?_
  refine q_for (P := fun k => QW V iX9_draftRoster 4 [some (.ref a), some (.int t), some (.int (r_dr M t k)), some (.int (nI k))] [] h z 0 0 (q_Ki P) Kx) 24 ?_ (fun k hkn ih => ?_)
  · refine wX9_draftRoster_4 ?_
    refine wX9_draftRoster_5 ?_
    refine wX9_draftRoster_7 (fun c7 => ?_) (fun c7 => absurd (by decide) c7)
    refine wX9_draftRoster_37 ?_
    refine wX9_draftRoster_38  ?_
    exact hk
  · refine wX9_draftRoster_4 ?_
    refine wX9_draftRoster_5 ?_
    refine wX9_draftRoster_7 (fun c7 => absurd c7 (nI_ge (b := 24) hkn (by decide))) (fun c7 => ?_)
    refine wX9_draftRoster_10 ?_
    refine wX9_draftRoster_11 ?_
    refine wX9_draftRoster_12 hM.c ?_
    refine wX9_draftRoster_15 ?_
    refine wX9_draftRoster_17 ?_
    refine wX9_draftRoster_18 ?_
    refine wX9_draftRoster_19 hM.a8 (show (9 : Int32) * nI k = nI (9 * k) from nI_mul 9 k) (show 9 * k < 216 by omega) (by decide) ?_
    refine wX9_draftRoster_20 ?_
    refine wX9_draftRoster_21 (fun c21 => ?_) (fun c21 => ?_)
    · refine wX9_draftRoster_28 ?_
      refine wX9_draftRoster_29 ?_
      refine wX9_draftRoster_30 ?_
      refine wX9_draftRoster_31 ?_
      refine wX9_draftRoster_34 ?_
      refine q_ls ?_ ih
      rw [nI_1]
      first
        | (have q9 : M.2.2 8 (9 * k) = t := c21; rw [show r_dr M t (k + 1) = r_dr M t k + (if M.2.2 8 (9 * k) = t then 1 else 0) from rfl, if_pos q9])
        | (have q9 : ¬ M.2.2 8 (9 * k) = t := c21; rw [show r_dr M t (k + 1) = r_dr M t k + (if M.2.2 8 (9 * k) = t then 1 else 0) from rfl, if_neg q9])
    · refine wX9_draftRoster_24 ?_
      refine wX9_draftRoster_25 ?_
      refine wX9_draftRoster_29 ?_
      refine wX9_draftRoster_30 ?_
      refine wX9_draftRoster_31 ?_
      refine wX9_draftRoster_34 ?_
      refine q_ls ?_ ih
      rw [nI_1]
      first
        | (have q9 : M.2.2 8 (9 * k) = t := c21; rw [show r_dr M t (k + 1) = r_dr M t k + (if M.2.2 8 (9 * k) = t then 1 else 0) from rfl, if_pos q9])
        | (have q9 : ¬ M.2.2 8 (9 * k) = t := c21; rw [show r_dr M t (k + 1) = r_dr M t k + (if M.2.2 8 (9 * k) = t then 1 else 0) from rfl, if_neg q9])
end CX9i

/-! SalaryCapLedgerModel: brackets and contracts of the text -/
section CX9j
variable {V : q_En} {h : q_H} {z : Option Nat} {Kx : q_KX}
theorem rd_b_bad {f : Nat → Int32} {r : q_Rd} (e : rd_is f r 1 = false) : ¬ (rd_b3 f r).ec = 0 ∧ (rd_b3 f r).ec = (rd_fail r 1 (nI r.st)).ec ∧ (rd_b3 f r).ea = (rd_fail r 1 (nI r.st)).ea := by
  have e1 : rd_word f r 1 = rd_fail r 1 (nI r.st) := by unfold rd_word; rw [if_neg (by rw [e]; decide)]
  have n1 : ¬ (rd_fail r 1 (nI r.st)).ec = 0 := rd_fail_ne (by decide)
  have e2 : (rd_b1 f r).2 = rd_fail r 1 (nI r.st) := by unfold rd_b1; rw [e1, rd_nb_b n1]
  have e3 : (rd_b2 f r).2 = rd_fail r 1 (nI r.st) := by unfold rd_b2; rw [e2, rd_nb_b n1]
  have e4 := rd_semi_b (f := f) n1
  unfold rd_b3
  rw [e3]
  exact ⟨fun z => n1 (e4.1.symm.trans z), e4.1, e4.2⟩
theorem rd_b3_ok {f : Nat → Int32} {r : q_Rd} (h : rd_ok r) (hk : 0 ≤ r.kd ∧ r.kd ≤ 4) : rd_ok (rd_b3 f r) ∧ (rd_b3 f r).ln = r.ln ∧ (0 ≤ (rd_b3 f r).kd ∧ (rd_b3 f r).kd ≤ 4) := by
  have h1 := rd_word_ok (f := f) (i := 1) h
  have h2 := rd_nb_ok (f := f) (lo := 1) (hi := 99999) h1.1
  have h3 := rd_nb_ok (f := f) (lo := 0) (hi := 900) h2.1
  have h4 := rd_semi_ok (f := f) h3.1
  have k1 : 0 ≤ (rd_word f r 1).kd ∧ (rd_word f r 1).kd ≤ 4 := by
    unfold rd_word; split
    · exact rd_tok_kd
    · exact rd_fail_kd hk
  exact ⟨h4.1, h4.2.trans (h3.2.trans (h2.2.trans h1.2)), rd_semi_kd (rd_nb_kd (rd_nb_kd k1))⟩
theorem rd_bl_no {f : Nat → Int32} {n k : Nat} {r : q_Rd} {T : q_Te} (hk : ¬ k = 0) (e : rd_is f r 1 = false) : rd_bl f n k r T = (r, T) := by
  cases n with
  | zero => rfl
  | succ n => rw [rd_bl, if_neg (fun z => z.elim hk (fun z => by rw [e] at z; cases z))]
/-- brackets as the draft holds them -/
def cpb (M : q_Mo) (T : q_Te) (k : Nat) : Prop := ∀ b, b < k → M.2.2 7 (2 * b) = te_s T b ∧ M.2.2 7 (2 * b + 1) = te_r T b ∧ (1 ≤ te_s T b ∧ te_s T b ≤ 99999) ∧ (0 ≤ te_r T b ∧ te_r T b ≤ 900)
theorem mX9_readBrackets {a : Nat} {M : q_Mo} {f : Nat → Int32} {r : q_Rd} {T : q_Te} {P : q_H → Option Nat → Prop} (hM : isM h a M) (hc : cpl M f r) (hk : ∀ h2 M2, isM h2 a M2 → q_tz 7 26 M M2 → cpl M2 f (rd_bf f (rd_b5 f r T).1) → ((rd_bf f (rd_b5 f r T).1).ec = 0 → ∃ k, 1 ≤ k ∧ k ≤ 4 ∧ M2.1 26 = nI k ∧ te_n (rd_b5 f r T).2 = nI k ∧ cpb M2 (rd_b5 f r T).2 k) → q_out a 13 h h2 → P h2 z) : QMv V iX9_readBrackets [.ref a] h z P Kx := by
  have ho : q_out a 13 h h := q_out.refl
  have hgo : ∀ n, ∀ k hh Mk rk Tk, n + k = 4 → rd_bl f n k rk Tk = rd_b5 f r T → isM hh a Mk → q_tz 7 26 M Mk → cpl Mk f rk → Mk.1 26 = nI k → te_n Tk = nI k → (rk.ec = 0 → cpb Mk Tk k) → q_out a 13 h hh → QW V iX9_readBrackets 5 [some (.ref a)] [] hh z 0 0 (q_Kv P) Kx := by
    intro n
    induction n with
    | zero =>
      intro k hh Mk rk Tk hnk hrun hM TZ hc h26 htn hcb ho
      refine wX9_readBrackets_5 ?_
      refine wX9_readBrackets_6 ?_
      refine wX9_readBrackets_8 hM.c (mX9_isWord (by decide) hM hc ?_)
      refine wX9_readBrackets_11 (fun c11 => ?_) (fun c11 => ?_)
      · refine wX9_readBrackets_88 ?_
        refine wX9_readBrackets_89 hM.c ?_
        refine wX9_readBrackets_92 (fun c92 => ?_) (fun c92 => ?_)
        · refine wX9_readBrackets_100  ?_
          have q9 := q_b0 c11
          first
            | (have q8 : ¬ Mk.1 26 = 0 := c92
               have k0 : ¬ k = 0 := fun e => q8 (by rw [h26, e]; rfl)
               have e5 : rd_b5 f r T = (rk, Tk) := by rw [← hrun]; exact rd_bl_no k0 q9
               have eF : rd_bf f (rd_b5 f r T).1 = rk := by rw [e5]; unfold rd_bf; rw [if_neg (by rw [q9]; decide)]
               refine hk _ _ hM TZ (by rw [eF]; exact hc) (fun z => ⟨k, by omega, by omega, h26, by rw [e5]; exact htn, by rw [e5]; rw [eF] at z; exact hcb z⟩) ho)
            | exact absurd (nI_inj (by omega) (by decide) (h26.symm.trans (show Mk.1 26 = 0 from c92)) : k = 0) (by omega)
        · refine wX9_readBrackets_95 ?_
          refine wX9_readBrackets_96 ?_
          refine wX9_readBrackets_97 hM.c (mX9_fail hM hc (by decide) (fun h2 M2 hM T2 hc2 ho2 => ?_))
          have ho := ho.trans ho2
          refine wX9_readBrackets_100  ?_
          have q9 := q_b0 c11
          first
            | (have q8 : ¬ Mk.1 26 = 0 := c92
               have k0 : ¬ k = 0 := fun e => q8 (by rw [h26, e]; rfl)
               have e5 : rd_b5 f r T = (rk, Tk) := by rw [← hrun]; exact rd_bl_no k0 q9
               have eF : rd_bf f (rd_b5 f r T).1 = rk := by rw [e5]; unfold rd_bf; rw [if_neg (by rw [q9]; decide)]
               refine hk _ _ hM TZ (by rw [eF]; exact hc) (fun z => ⟨k, by omega, by omega, h26, by rw [e5]; exact htn, by rw [e5]; rw [eF] at z; exact hcb z⟩) ho)
            | exact absurd (nI_inj (by omega) (by decide) (h26.symm.trans (show Mk.1 26 = 0 from c92)) : k = 0) (by omega)
      · refine wX9_readBrackets_14 ?_
        refine wX9_readBrackets_15 hM.c ?_
        refine wX9_readBrackets_18 ?_
        refine wX9_readBrackets_19 (fun c19 => absurd (show Mk.1 26 = 4 by rw [h26, show k = 4 by omega]; rfl) c19) (fun c19 => ?_)
        refine wX9_readBrackets_22 ?_
        refine wX9_readBrackets_23 ?_
        refine wX9_readBrackets_24 hM.c (mX9_fail hM hc (by decide) (fun h2 M2 hM T2 hc2 ho2 => ?_))
        have ho := ho.trans ho2
        refine wX9_readBrackets_27  ?_
        have hw := q_b1 c11
        have k4 : k = 4 := nI_inj (by omega) (by decide) (h26.symm.trans (show Mk.1 26 = 4 from c19))
        have e5 : rd_b5 f r T = (rk, Tk) := hrun.symm
        have eF : rd_bf f (rd_b5 f r T).1 = rd_fail rk 3 (nI rk.st) := by rw [e5]; unfold rd_bf; rw [if_pos hw]
        refine hk _ _ hM (TZ.x T2) (by rw [eF]; exact hc2) (fun z => absurd (by rw [eF] at z; exact z) (rd_fail_ne (by decide))) ho
    | succ n ih =>
      intro k hh Mk rk Tk hnk hrun hM TZ hc h26 htn hcb ho
      refine wX9_readBrackets_5 ?_
      refine wX9_readBrackets_6 ?_
      refine wX9_readBrackets_8 hM.c (mX9_isWord (by decide) hM hc ?_)
      refine wX9_readBrackets_11 (fun c11 => ?_) (fun c11 => ?_)
      · refine wX9_readBrackets_88 ?_
        refine wX9_readBrackets_89 hM.c ?_
        refine wX9_readBrackets_92 (fun c92 => ?_) (fun c92 => ?_)
        · refine wX9_readBrackets_100  ?_
          have q9 := q_b0 c11
          first
            | (have q8 : ¬ Mk.1 26 = 0 := c92
               have k0 : ¬ k = 0 := fun e => q8 (by rw [h26, e]; rfl)
               have e5 : rd_b5 f r T = (rk, Tk) := by rw [← hrun]; exact rd_bl_no k0 q9
               have eF : rd_bf f (rd_b5 f r T).1 = rk := by rw [e5]; unfold rd_bf; rw [if_neg (by rw [q9]; decide)]
               refine hk _ _ hM TZ (by rw [eF]; exact hc) (fun z => ⟨k, by omega, by omega, h26, by rw [e5]; exact htn, by rw [e5]; rw [eF] at z; exact hcb z⟩) ho)
            | (have q8 : Mk.1 26 = 0 := c92
               have k0 : k = 0 := nI_inj (by omega) (by decide) (h26.symm.trans q8)
               subst k0
               obtain ⟨b1, b2, b3⟩ := rd_b_bad q9
               have b4 := rd_b3_ok (f := f) hc.2.2.2.2.2.1 hc.2.2.2.2.2.2.1
               have i2 : rd_is f (rd_b3 f rk) 1 = false := rd_is_b b1
               have e5 : (rd_b5 f r T).1 = rd_b3 f rk := by
                 rw [← hrun, show n + 1 = 3 + 1 by omega, rd_bl, if_pos (Or.inl rfl), rd_bl_no (by decide) i2]
               have eF : rd_bf f (rd_b5 f r T).1 = rd_b3 f rk := by rw [e5]; unfold rd_bf; rw [if_neg (by rw [i2]; decide)]
               refine hk _ _ hM (TZ.x T2) (by rw [eF]; exact cpl_bad hc2 (rd_fail_ne (by decide)) b2 b3 (b4.2.1.trans (rd_fail_ok hc.2.2.2.2.2.1).2.symm) b4.1 b4.2.2) (fun z => absurd (by rw [eF] at z; exact z) b1) ho)
        · refine wX9_readBrackets_95 ?_
          refine wX9_readBrackets_96 ?_
          refine wX9_readBrackets_97 hM.c (mX9_fail hM hc (by decide) (fun h2 M2 hM T2 hc2 ho2 => ?_))
          have ho := ho.trans ho2
          refine wX9_readBrackets_100  ?_
          have q9 := q_b0 c11
          first
            | (have q8 : ¬ Mk.1 26 = 0 := c92
               have k0 : ¬ k = 0 := fun e => q8 (by rw [h26, e]; rfl)
               have e5 : rd_b5 f r T = (rk, Tk) := by rw [← hrun]; exact rd_bl_no k0 q9
               have eF : rd_bf f (rd_b5 f r T).1 = rk := by rw [e5]; unfold rd_bf; rw [if_neg (by rw [q9]; decide)]
               refine hk _ _ hM TZ (by rw [eF]; exact hc) (fun z => ⟨k, by omega, by omega, h26, by rw [e5]; exact htn, by rw [e5]; rw [eF] at z; exact hcb z⟩) ho)
            | (have q8 : Mk.1 26 = 0 := c92
               have k0 : k = 0 := nI_inj (by omega) (by decide) (h26.symm.trans q8)
               subst k0
               obtain ⟨b1, b2, b3⟩ := rd_b_bad q9
               have b4 := rd_b3_ok (f := f) hc.2.2.2.2.2.1 hc.2.2.2.2.2.2.1
               have i2 : rd_is f (rd_b3 f rk) 1 = false := rd_is_b b1
               have e5 : (rd_b5 f r T).1 = rd_b3 f rk := by
                 rw [← hrun, show n + 1 = 3 + 1 by omega, rd_bl, if_pos (Or.inl rfl), rd_bl_no (by decide) i2]
               have eF : rd_bf f (rd_b5 f r T).1 = rd_b3 f rk := by rw [e5]; unfold rd_bf; rw [if_neg (by rw [i2]; decide)]
               refine hk _ _ hM (TZ.x T2) (by rw [eF]; exact cpl_bad hc2 (rd_fail_ne (by decide)) b2 b3 (b4.2.1.trans (rd_fail_ok hc.2.2.2.2.2.1).2.symm) b4.1 b4.2.2) (fun z => absurd (by rw [eF] at z; exact z) b1) ho)
      · refine wX9_readBrackets_14 ?_
        refine wX9_readBrackets_15 hM.c ?_
        refine wX9_readBrackets_18 ?_
        refine wX9_readBrackets_19 (fun c19 => ?_) (fun c19 => absurd (show Mk.1 26 = 4 from c19) (by rw [h26]; exact fun z => by have := nI_inj (by omega) (by decide) (z.trans (q_nI_lit 4).symm); omega))
        refine wX9_readBrackets_28 ?_
        have hw := q_b1 c11
        refine wX9_readBrackets_29 hM.c (mX9_next hM hc (fun h2 M1 hM T1 hc ho2 => ?_))
        have ho := ho.trans ho2
        have TZ := TZ.x T1
        have h26 : M1.1 26 = nI k := (T1.2 26 (by decide)).trans h26
        refine wX9_readBrackets_32 ?_
        refine wX9_readBrackets_33 hM.c ?_
        refine wX9_readBrackets_36 ?_
        refine wX9_readBrackets_37 ?_
        refine wX9_readBrackets_38 hM.c ?_
        refine wX9_readBrackets_41 ?_
        refine wX9_readBrackets_42 ?_
        refine wX9_readBrackets_43 ?_
        refine wX9_readBrackets_44 ?_
        rw [show (2 : Int32) * M1.1 26 = nI (2 * k) from by rw [h26, show (2 : Int32) = nI 2 from rfl, nI_mul]]
        refine wX9_readBrackets_46 hM.c (mX9_readY (Y := rd_b1 f rk) (show rd_nb f (rd_tok f rk) 1 99999 = rd_b1 f rk from by unfold rd_b1 rd_word; rw [if_pos hw]) hM hc (fun h2 M2 v1 hM T2 hc hv1 ho2 => ?_))
        have ho := ho.trans ho2
        have TZ := TZ.x T2
        have h26 : M2.1 26 = nI k := (T2.2 26 (by decide)).trans h26
        refine wX9_readBrackets_49 hM.a7 (j := 2 * k) rfl (by omega) (by decide) ?_
        refine q_nI (k := 7) (by decide) hM ho (fun h2 hM ho => ?_)
        have hc := cpl_i (k := 7) (g := upd (M2.2.2 7) (2 * k) v1) hc (by decide)
        have TZ := q_tz.i (g := upd (M2.2.2 7) (2 * k) v1) TZ
        refine wX9_readBrackets_50 ?_
        refine wX9_readBrackets_51 hM.c ?_
        refine wX9_readBrackets_54 ?_
        refine wX9_readBrackets_55 ?_
        refine wX9_readBrackets_56 hM.c ?_
        refine wX9_readBrackets_59 ?_
        refine wX9_readBrackets_60 ?_
        refine wX9_readBrackets_61 ?_
        refine wX9_readBrackets_62 ?_
        refine wX9_readBrackets_63 ?_
        refine wX9_readBrackets_64 ?_
        rw [show (2 : Int32) * (mIr M2 7 (upd (M2.2.2 7) (2 * k) v1)).1 26 + 1 = nI (2 * k + 1) from by rw [show (mIr M2 7 (upd (M2.2.2 7) (2 * k) v1)).1 26 = nI k from h26, show (2 : Int32) = nI 2 from rfl, nI_mul, nI_1]]
        refine wX9_readBrackets_67 hM.c (mX9_readY (Y := rd_b2 f rk) rfl hM hc (fun h2 M3 v2 hM T3 hc hv2 ho2 => ?_))
        have ho := ho.trans ho2
        have TZ := TZ.x T3
        have h26 : M3.1 26 = nI k := (T3.2 26 (by decide)).trans h26
        refine wX9_readBrackets_70 hM.a7 (j := 2 * k + 1) rfl (by omega) (by decide) ?_
        refine q_nI (k := 7) (by decide) hM ho (fun h2 hM ho => ?_)
        have hc := cpl_i (k := 7) (g := upd (M3.2.2 7) (2 * k + 1) v2) hc (by decide)
        have TZ := q_tz.i (g := upd (M3.2.2 7) (2 * k + 1) v2) TZ
        refine wX9_readBrackets_71 ?_
        refine wX9_readBrackets_72 hM.c (mX9_semiY (Y := rd_b3 f rk) rfl hM hc (fun h2 M4 hM T4 hc ho2 => ?_))
        have ho := ho.trans ho2
        have TZ := TZ.x T4
        have h26 : M4.1 26 = nI k := (T4.2 26 (by decide)).trans h26
        refine wX9_readBrackets_75 ?_
        refine wX9_readBrackets_76 ?_
        refine wX9_readBrackets_77 hM.c ?_
        refine wX9_readBrackets_80 ?_
        refine wX9_readBrackets_81 ?_
        refine wX9_readBrackets_82 hM.c ?_
        refine q_sx (k := 26) hM ho (fun h2 hM ho => ?_)
        refine wX9_readBrackets_85 ?_
        have h26b : (mS M4 26 (M4.1 26 + 1)).1 26 = nI (k + 1) := (show M4.1 26 + 1 = _ by rw [h26, nI_1])
        refine ih (k + 1) _ (mS M4 26 (M4.1 26 + 1)) (rd_b3 f rk) (te_ab Tk k (rd_b1 f rk).1 (rd_b2 f rk).1) (by omega) ?_ hM (q_tz.s TZ) (cpl_s hc (by decide)) h26b (show te_n Tk + 1 = _ by rw [htn, nI_1]) (fun e => ?_) ho
        · rw [← hrun, rd_bl, if_pos (Or.inr hw)]
        · have z2 : (rd_b2 f rk).2.ec = 0 := rd_semi_0Y (f := f) (Y := rd_b3 f rk) rfl e
          have z1 : (rd_b1 f rk).2.ec = 0 := rd_nb_0Y (f := f) (Y := rd_b2 f rk) (lo := 0) (hi := 900) rfl z2
          have zk : rk.ec = 0 := rd_word_0Y (f := f) (i := 1) rfl (rd_nb_0Y (f := f) (Y := rd_b1 f rk) (lo := 1) (hi := 99999) rfl z1)
          intro b hb
          have g4 := fun j => T4.g 7 j
          have g3 : ∀ j, (mIr M3 7 (upd (M3.2.2 7) (2 * k + 1) v2)).2.2 7 j = if j = 2 * k + 1 then v2 else M3.2.2 7 j := fun j => rfl
          have g2 : ∀ j, M3.2.2 7 j = if j = 2 * k then v1 else M2.2.2 7 j := fun j => T3.g 7 j
          have g1 : ∀ j, M2.2.2 7 j = Mk.2.2 7 j := fun j => (T2.g 7 j).trans (T1.g 7 j)
          have r1 : 1 ≤ (rd_b1 f rk).1 ∧ (rd_b1 f rk).1 ≤ 99999 := rd_nb_in (by decide)
          have r2 : 0 ≤ (rd_b2 f rk).1 ∧ (rd_b2 f rk).1 ≤ 900 := rd_nb_in (by decide)
          show M4.2.2 7 (2 * b) = upd (te_s Tk) k (rd_b1 f rk).1 b ∧ M4.2.2 7 (2 * b + 1) = upd (te_r Tk) k (rd_b2 f rk).1 b ∧ (1 ≤ upd (te_s Tk) k (rd_b1 f rk).1 b ∧ upd (te_s Tk) k (rd_b1 f rk).1 b ≤ 99999) ∧ (0 ≤ upd (te_r Tk) k (rd_b2 f rk).1 b ∧ upd (te_r Tk) k (rd_b2 f rk).1 b ≤ 900)
          rw [g4, g4, g3, g3, g2, g2, g1, g1]
          by_cases e1 : b = k
          · subst e1
            rw [if_neg (by omega), if_pos rfl, if_pos rfl, upd_s, upd_s, hv1 z1, hv2 z2]
            exact ⟨rfl, rfl, r1, r2⟩
          · rw [if_neg (by omega), if_neg (by omega), if_neg (by omega), if_neg (by omega), upd_n e1, upd_n e1]
            exact hcb zk b (by omega)
  refine eX9_readBrackets ?_
  refine wX9_readBrackets_0 ?_
  refine wX9_readBrackets_1 ?_
  refine wX9_readBrackets_2 hM.c ?_
  refine q_sx (k := 26) hM ho (fun h2 hM ho => ?_)
  refine hgo 4 0 _ (mS M 26 0) r (te_sN T 0) rfl rfl hM (q_tz.s q_tz.r) (cpl_s hc (by decide)) rfl rfl (fun _ b hb => absurd hb (by omega)) ho
/-- what the class has behind a number whose place may be taken -/
def rd_tk (f : Nat → Int32) (r : q_Rd) (N : Int32) (tk : Int32 → Bool) : q_Rd := if tk (rd_nb f r 0 N).1 = true then rd_fail (rd_nb f r 0 N).2 4 (rd_nb f r 0 N).2.na else (rd_nb f r 0 N).2
theorem rd_tk_bad {f : Nat → Int32} {r : q_Rd} {N : Int32} {tk : Int32 → Bool} (e : ¬ (rd_nb f r 0 N).2.ec = 0) : rd_tk f r N tk = (rd_nb f r 0 N).2 := by
  unfold rd_tk; split
  · exact rd_fail_b (rd_bad_ne e)
  · rfl
theorem rd_tk_no {f : Nat → Int32} {r : q_Rd} {N : Int32} {tk : Int32 → Bool} (e : tk (rd_nb f r 0 N).1 = false) : rd_tk f r N tk = (rd_nb f r 0 N).2 := by
  unfold rd_tk; rw [if_neg (by rw [e]; decide)]
theorem rd_nb_good {f : Nat → Int32} {r : q_Rd} {lo hi : Int32} (e : (rd_nb f r lo hi).2.ec = 0) : r.kd = 2 ∧ rg r.vl lo hi = true ∧ rd_nb f r lo hi = (r.vl, rd_tok f (r.ec, r.ea, r.ct, r.ln, r.en, r.kd, r.st, r.vl, nI r.st)) := by
  have e0 := rd_nb_0 e
  unfold rd_nb at e ⊢
  rw [if_neg (by rw [rd_bad_e e0]; decide)] at e ⊢
  by_cases k2 : r.kd = 2
  · rw [if_pos k2] at e ⊢
    by_cases q : r.vl < lo ∨ ¬ r.vl ≤ hi
    · rw [if_pos q] at e; exact absurd e (rd_fail_ne (by decide))
    · rw [if_neg q]
      rw [not_or, Classical.not_not] at q
      exact ⟨k2, decide_eq_true q, rfl⟩
  · rw [if_neg k2] at e; exact absurd e (rd_fail_ne (by decide))
theorem rd_nb_is {f : Nat → Int32} {r : q_Rd} {lo hi : Int32} (e0 : r.ec = 0) (k2 : r.kd = 2) (hr : rg r.vl lo hi = true) : rd_nb f r lo hi = (r.vl, rd_tok f (r.ec, r.ea, r.ct, r.ln, r.en, r.kd, r.st, r.vl, nI r.st)) := by
  have hr2 := of_decide_eq_true hr
  unfold rd_nb; rw [if_neg (by rw [rd_bad_e e0]; decide), if_pos k2, if_neg (fun z => z.elim hr2.1 (fun z => z hr2.2))]
theorem mX9_readTaker {a : Nat} {M : q_Mo} {f : Nat → Int32} {r : q_Rd} {m : Nat} {pl : Int32} {tk : Int32 → Bool} {P : Int32 → q_H → Option Nat → Prop} (hM : isM h a M) (hc : cpl M f r) (hm : 1 ≤ m ∧ m ≤ 24) (htk : r.ec = 0 → r.kd = 2 → ∀ j, j < m → r.vl = nI j → (if pl = 0 then decide (r_dr M (nI j) 24 = 12) else decide (¬ M.2.2 8 (9 * j) = -1)) = tk (nI j)) (hk : ∀ h2 M2 v, isM h2 a M2 → q_tx M M2 → cpl M2 f (rd_tk f r (nI m - 1) tk) → ((rd_tk f r (nI m - 1) tk).ec = 0 → v = (rd_nb f r 0 (nI m - 1)).1) → q_out a 13 h h2 → P v h2 z) : QMi V iX9_readTaker [.ref a, .int (nI m), .int pl] h z P Kx := by
  have ho : q_out a 13 h h := q_out.refl
  have hm1 : nI m - 1 = nI (m - 1) := nI_sb (b := 1) (by omega)
  have hj65 : ∀ hh M1 r1, isM hh a M1 → q_tx M M1 → cpl M1 f r1 → ((r1 = r ∧ ((rd_nb f r 0 (nI m - 1)).2.ec = 0 → tk (rd_nb f r 0 (nI m - 1)).1 = false)) ∨ (r1 = rd_fail r 4 (nI r.st) ∧ r.ec = 0 ∧ r.kd = 2 ∧ rg r.vl 0 (nI m - 1) = true ∧ tk r.vl = true)) → q_out a 13 h hh → QW V iX9_readTaker 65 [some (.ref a), some (.int (nI m)), some (.int pl)] [] hh z 0 0 (q_Ki P) Kx := by
    intro hh M1 r1 hM T hc1 hA ho
    refine wX9_readTaker_65 ?_
    refine wX9_readTaker_66 ?_
    refine wX9_readTaker_67 ?_
    refine wX9_readTaker_68 ?_
    refine wX9_readTaker_69 ?_
    refine wX9_readTaker_70 hM.c (mX9_read hM hc1 (fun h3 M3 v hM T3 hc3 hv ho2 => ?_))
    have ho := ho.trans ho2
    refine wX9_readTaker_73  ?_
    rcases hA with ⟨rfl, htk0⟩ | ⟨rfl, e0, k2, hr, htk1⟩
    · have e9 : rd_tk f r1 (nI m - 1) tk = (rd_nb f r1 0 (nI m - 1)).2 := by
        by_cases z : (rd_nb f r1 0 (nI m - 1)).2.ec = 0
        · exact rd_tk_no (htk0 z)
        · exact rd_tk_bad z
      exact hk _ _ _ hM (T.t T3) (by rw [e9]; exact hc3) (fun z => hv (by rw [e9] at z; exact z)) ho
    · have hn := rd_nb_is (f := f) e0 k2 hr
      have ne := rd_fail_ne (r := r) (c := 4) (p := nI r.st) (by decide)
      have n2 : (rd_nb f (rd_fail r 4 (nI r.st)) 0 (nI m - 1)).2 = rd_fail r 4 (nI r.st) := by rw [rd_nb_b ne]
      rw [n2] at hc3
      have te : (rd_nb f r 0 (nI m - 1)).2.ec = 0 := by rw [hn]; exact rd_tok_ec.1.trans e0
      have tna : (rd_nb f r 0 (nI m - 1)).2.na = nI r.st := by rw [hn]; exact rd_tok_ec.2.2.2.2
      have e8 : rd_tk f r (nI m - 1) tk = rd_fail (rd_nb f r 0 (nI m - 1)).2 4 (nI r.st) := by
        unfold rd_tk; rw [if_pos (by rw [hn]; exact htk1), tna]
      have f1 := rd_fail_f (c := 4) (p := nI r.st) (rd_bad_e te)
      have f2 := rd_fail_f (c := 4) (p := nI r.st) (rd_bad_e e0)
      refine hk _ _ _ hM (T.t T3) ?_ (fun z => absurd (by rw [e8] at z; exact z) (rd_fail_ne (by decide))) ho
      rw [e8]
      exact cpl_bad hc3 ne (by rw [f1, f2]) (by rw [f1, f2]) ((rd_fail_ok (rd_nb_ok hc.2.2.2.2.2.1).1).2.trans ((rd_nb_ok hc.2.2.2.2.2.1).2.trans (rd_fail_ok hc.2.2.2.2.2.1).2.symm)) (rd_fail_ok (rd_nb_ok hc.2.2.2.2.2.1).1).1 (rd_fail_kd (rd_nb_kd hc.2.2.2.2.2.2.1))
  have c7x := hc.2.2.2.2.2.2.1
  have c8x := hc.2.2.2.2.2.2.2
  have hbad : ¬ r.ec = 0 → ∀ hh M1, isM hh a M1 → q_tx M M1 → (cpl M1 f r ∨ cpl M1 f (rd_fail r 4 (nI r.st))) → q_out a 13 h hh → QW V iX9_readTaker 65 [some (.ref a), some (.int (nI m)), some (.int pl)] [] hh z 0 0 (q_Ki P) Kx := by
    intro e0 hh M1 hM T hcc ho
    have hb := rd_fail_b (c := 4) (p := nI r.st) (rd_bad_ne e0)
    rw [hb, or_self] at hcc
    exact hj65 _ _ r hM T hcc (Or.inl ⟨rfl, fun z => absurd (rd_nb_0 z) e0⟩) ho
  refine eX9_readTaker ?_
  refine wX9_readTaker_0 ?_
  refine wX9_readTaker_1 hM.c ?_
  refine wX9_readTaker_4 ?_
  refine wX9_readTaker_5 (fun c5 => ?_) (fun c5 => ?_)
  · by_cases e0 : r.ec = 0
    · obtain ⟨g1, g2, g3, g4⟩ := c8x e0
      have k2 : ¬ r.kd = 2 := fun z => c5 (show M.1 20 = 3 from g3.trans ((tkm_inj c7x).2.1.mpr z))
      exact hj65 _ _ r hM q_tx.r hc (Or.inl ⟨rfl, fun z => absurd (rd_nb_good z).1 k2⟩) ho
    · exact hbad e0 _ _ hM q_tx.r (Or.inl hc) ho
  · refine wX9_readTaker_8 ?_
    refine wX9_readTaker_9 hM.c ?_
    refine wX9_readTaker_12 ?_
    refine wX9_readTaker_13 ?_
    refine wX9_readTaker_14 ?_
    refine wX9_readTaker_15 ?_
    refine wX9_readTaker_16 ?_
    refine wX9_readTaker_17 ?_
    refine wX9_readTaker_18 (mX9_isIn ?_)
    refine wX9_readTaker_21 (fun c21 => ?_) (fun c21 => ?_)
    · by_cases e0 : r.ec = 0
      · obtain ⟨g1, g2, g3, g4⟩ := c8x e0
        have k2 : r.kd = 2 := (tkm_inj c7x).2.1.mp (g3.symm.trans (show M.1 20 = 3 from c5))
        have hr : ¬ rg r.vl 0 (nI m - 1) = true := by
          have q := q_b0 c21
          rw [rgL_0, g4 k2] at q; rw [q]; decide
        exact hj65 _ _ r hM q_tx.r hc (Or.inl ⟨rfl, fun z => absurd (rd_nb_good z).2.1 hr⟩) ho
      · exact hbad e0 _ _ hM q_tx.r (Or.inl hc) ho
    · by_cases e0 : r.ec = 0
      · obtain ⟨g1, g2, g3, g4⟩ := c8x e0
        have k2 : r.kd = 2 := (tkm_inj c7x).2.1.mp (g3.symm.trans (show M.1 20 = 3 from c5))
        have hr : rg r.vl 0 (nI m - 1) = true := by
          have q := q_b1 c21
          rw [rgL_0, g4 k2] at q; exact q
        obtain ⟨j, hj, ej⟩ := rg_of (k := m) (m := 24) (by omega) (by decide) rfl hr
        have hj2 : M.1 21 = nI j := (g4 k2).trans ej
        have ht := htk e0 k2 j hj ej
        refine wX9_readTaker_24 ?_
        refine wX9_readTaker_25 (fun c25 => ?_) (fun c25 => ?_)
        · refine wX9_readTaker_47 ?_
          refine wX9_readTaker_48 ?_
          refine wX9_readTaker_49 hM.c ?_
          rw [hj2]
          refine wX9_readTaker_52 hM.c (mX9_draftRoster hM ?_)
          refine wX9_readTaker_55 ?_
          refine wX9_readTaker_57 (fun c57 => ?_) (fun c57 => ?_)
          · first
              | (have q9 : ¬ r_dr M (nI j) 24 = 12 := c57
                 have hpl : pl = 0 := c25
                 rw [if_pos hpl, decide_eq_false q9] at ht
                 exact hj65 _ _ r hM q_tx.r hc (Or.inl ⟨rfl, fun _ => by rw [rd_nb_is e0 k2 hr, ej]; exact ht.symm⟩) ho)
              | (have q9 : r_dr M (nI j) 24 = 12 := c57
                 have hpl : pl = 0 := c25
                 rw [if_pos hpl, decide_eq_true q9] at ht
                 exact hj65 _ _ _ hM T2 hc2 (Or.inr ⟨rfl, e0, k2, hr, by rw [ej]; exact ht.symm⟩) ho)
              | (have q9 : M.2.2 8 (9 * j) = -1 := c41
                 have hpl : ¬ pl = 0 := c25
                 rw [if_neg hpl, decide_eq_false (fun z => z q9)] at ht
                 exact hj65 _ _ r hM q_tx.r hc (Or.inl ⟨rfl, fun _ => by rw [rd_nb_is e0 k2 hr, ej]; exact ht.symm⟩) ho)
              | (have q9 : ¬ M.2.2 8 (9 * j) = -1 := c41
                 have hpl : ¬ pl = 0 := c25
                 rw [if_neg hpl, decide_eq_true q9] at ht
                 exact hj65 _ _ _ hM T2 hc2 (Or.inr ⟨rfl, e0, k2, hr, by rw [ej]; exact ht.symm⟩) ho)
          · refine wX9_readTaker_60 ?_
            refine wX9_readTaker_61 ?_
            refine wX9_readTaker_62 hM.c (mX9_fail hM hc (by decide) (fun h2 M2 hM T2 hc2 ho2 => ?_))
            have ho := ho.trans ho2
            first
              | (have q9 : ¬ r_dr M (nI j) 24 = 12 := c57
                 have hpl : pl = 0 := c25
                 rw [if_pos hpl, decide_eq_false q9] at ht
                 exact hj65 _ _ r hM q_tx.r hc (Or.inl ⟨rfl, fun _ => by rw [rd_nb_is e0 k2 hr, ej]; exact ht.symm⟩) ho)
              | (have q9 : r_dr M (nI j) 24 = 12 := c57
                 have hpl : pl = 0 := c25
                 rw [if_pos hpl, decide_eq_true q9] at ht
                 exact hj65 _ _ _ hM T2 hc2 (Or.inr ⟨rfl, e0, k2, hr, by rw [ej]; exact ht.symm⟩) ho)
              | (have q9 : M.2.2 8 (9 * j) = -1 := c41
                 have hpl : ¬ pl = 0 := c25
                 rw [if_neg hpl, decide_eq_false (fun z => z q9)] at ht
                 exact hj65 _ _ r hM q_tx.r hc (Or.inl ⟨rfl, fun _ => by rw [rd_nb_is e0 k2 hr, ej]; exact ht.symm⟩) ho)
              | (have q9 : ¬ M.2.2 8 (9 * j) = -1 := c41
                 have hpl : ¬ pl = 0 := c25
                 rw [if_neg hpl, decide_eq_true q9] at ht
                 exact hj65 _ _ _ hM T2 hc2 (Or.inr ⟨rfl, e0, k2, hr, by rw [ej]; exact ht.symm⟩) ho)
        · refine wX9_readTaker_28 ?_
          refine wX9_readTaker_29 hM.c ?_
          refine wX9_readTaker_32 ?_
          refine wX9_readTaker_34 ?_
          refine wX9_readTaker_35 hM.c ?_
          refine wX9_readTaker_38 ?_
          refine wX9_readTaker_39 hM.a8 (show (9 : Int32) * M.1 21 = nI (9 * j) from by rw [hj2, show (9 : Int32) = nI 9 from rfl, nI_mul]) (show 9 * j < 216 by omega) (by decide) ?_
          refine wX9_readTaker_40 ?_
          refine wX9_readTaker_41 (fun c41 => ?_) (fun c41 => ?_)
          · first
              | (have q9 : ¬ r_dr M (nI j) 24 = 12 := c57
                 have hpl : pl = 0 := c25
                 rw [if_pos hpl, decide_eq_false q9] at ht
                 exact hj65 _ _ r hM q_tx.r hc (Or.inl ⟨rfl, fun _ => by rw [rd_nb_is e0 k2 hr, ej]; exact ht.symm⟩) ho)
              | (have q9 : r_dr M (nI j) 24 = 12 := c57
                 have hpl : pl = 0 := c25
                 rw [if_pos hpl, decide_eq_true q9] at ht
                 exact hj65 _ _ _ hM T2 hc2 (Or.inr ⟨rfl, e0, k2, hr, by rw [ej]; exact ht.symm⟩) ho)
              | (have q9 : M.2.2 8 (9 * j) = -1 := c41
                 have hpl : ¬ pl = 0 := c25
                 rw [if_neg hpl, decide_eq_false (fun z => z q9)] at ht
                 exact hj65 _ _ r hM q_tx.r hc (Or.inl ⟨rfl, fun _ => by rw [rd_nb_is e0 k2 hr, ej]; exact ht.symm⟩) ho)
              | (have q9 : ¬ M.2.2 8 (9 * j) = -1 := c41
                 have hpl : ¬ pl = 0 := c25
                 rw [if_neg hpl, decide_eq_true q9] at ht
                 exact hj65 _ _ _ hM T2 hc2 (Or.inr ⟨rfl, e0, k2, hr, by rw [ej]; exact ht.symm⟩) ho)
          · refine wX9_readTaker_44 ?_
            refine wX9_readTaker_60 ?_
            refine wX9_readTaker_61 ?_
            refine wX9_readTaker_62 hM.c (mX9_fail hM hc (by decide) (fun h2 M2 hM T2 hc2 ho2 => ?_))
            have ho := ho.trans ho2
            first
              | (have q9 : ¬ r_dr M (nI j) 24 = 12 := c57
                 have hpl : pl = 0 := c25
                 rw [if_pos hpl, decide_eq_false q9] at ht
                 exact hj65 _ _ r hM q_tx.r hc (Or.inl ⟨rfl, fun _ => by rw [rd_nb_is e0 k2 hr, ej]; exact ht.symm⟩) ho)
              | (have q9 : r_dr M (nI j) 24 = 12 := c57
                 have hpl : pl = 0 := c25
                 rw [if_pos hpl, decide_eq_true q9] at ht
                 exact hj65 _ _ _ hM T2 hc2 (Or.inr ⟨rfl, e0, k2, hr, by rw [ej]; exact ht.symm⟩) ho)
              | (have q9 : M.2.2 8 (9 * j) = -1 := c41
                 have hpl : ¬ pl = 0 := c25
                 rw [if_neg hpl, decide_eq_false (fun z => z q9)] at ht
                 exact hj65 _ _ r hM q_tx.r hc (Or.inl ⟨rfl, fun _ => by rw [rd_nb_is e0 k2 hr, ej]; exact ht.symm⟩) ho)
              | (have q9 : ¬ M.2.2 8 (9 * j) = -1 := c41
                 have hpl : ¬ pl = 0 := c25
                 rw [if_neg hpl, decide_eq_true q9] at ht
                 exact hj65 _ _ _ hM T2 hc2 (Or.inr ⟨rfl, e0, k2, hr, by rw [ej]; exact ht.symm⟩) ho)
      · obtain ⟨j, hj, ej⟩ : ∃ j, j < m ∧ M.1 21 = nI j := by
          have q := q_b1 c21
          rw [rgL_0] at q
          exact rg_of (k := m) (m := 24) (by omega) (by decide) rfl q
        have hj2 : M.1 21 = nI j := ej
        refine wX9_readTaker_24 ?_
        refine wX9_readTaker_25 (fun c25 => ?_) (fun c25 => ?_)
        · refine wX9_readTaker_47 ?_
          refine wX9_readTaker_48 ?_
          refine wX9_readTaker_49 hM.c ?_
          refine wX9_readTaker_52 hM.c (mX9_draftRoster hM ?_)
          refine wX9_readTaker_55 ?_
          refine wX9_readTaker_57 (fun c57 => ?_) (fun c57 => ?_)
          · first
              | exact hbad e0 _ _ hM T2 (Or.inr hc2) ho
              | exact hbad e0 _ _ hM q_tx.r (Or.inl hc) ho
          · refine wX9_readTaker_60 ?_
            refine wX9_readTaker_61 ?_
            refine wX9_readTaker_62 hM.c (mX9_fail hM hc (by decide) (fun h2 M2 hM T2 hc2 ho2 => ?_))
            have ho := ho.trans ho2
            first
              | exact hbad e0 _ _ hM T2 (Or.inr hc2) ho
              | exact hbad e0 _ _ hM q_tx.r (Or.inl hc) ho
        · refine wX9_readTaker_28 ?_
          refine wX9_readTaker_29 hM.c ?_
          refine wX9_readTaker_32 ?_
          refine wX9_readTaker_34 ?_
          refine wX9_readTaker_35 hM.c ?_
          refine wX9_readTaker_38 ?_
          refine wX9_readTaker_39 hM.a8 (show (9 : Int32) * M.1 21 = nI (9 * j) from by rw [hj2, show (9 : Int32) = nI 9 from rfl, nI_mul]) (show 9 * j < 216 by omega) (by decide) ?_
          refine wX9_readTaker_40 ?_
          refine wX9_readTaker_41 (fun c41 => ?_) (fun c41 => ?_)
          · first
              | exact hbad e0 _ _ hM T2 (Or.inr hc2) ho
              | exact hbad e0 _ _ hM q_tx.r (Or.inl hc) ho
          · refine wX9_readTaker_44 ?_
            refine wX9_readTaker_60 ?_
            refine wX9_readTaker_61 ?_
            refine wX9_readTaker_62 hM.c (mX9_fail hM hc (by decide) (fun h2 M2 hM T2 hc2 ho2 => ?_))
            have ho := ho.trans ho2
            first
              | exact hbad e0 _ _ hM T2 (Or.inr hc2) ho
              | exact hbad e0 _ _ hM q_tx.r (Or.inl hc) ho
end CX9j

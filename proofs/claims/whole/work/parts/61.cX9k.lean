/-! SalaryCapLedgerModel: a contract of the text -/
section CX9k
variable {V : q_En} {h : q_H} {z : Option Nat} {Kx : q_KX}
def okD (d : q_Dl) : Prop := (1 ≤ d_b d ∧ d_b d ≤ 99999) ∧ (0 ≤ d_r d ∧ d_r d ≤ 20) ∧ (1 ≤ d_n d ∧ d_n d ≤ 5) ∧ (0 ≤ d_s d ∧ d_s d ≤ 99999) ∧ (0 ≤ d_g d ∧ d_g d ≤ d_n d)
/-- one player of the draft -/
def cpB1 (M : q_Mo) (P : q_Pl) (p nt np : Nat) : Prop := M.2.2 8 (9 * p) = p_t P ∧ p_l P = p_t P ∧ p_n P = 0 ∧ (pl_has P = true → p < np ∧ (∃ j, j < nt ∧ p_t P = nI j) ∧ p_s P = 0 ∧ (M.2.2 8 (9 * p + 1) = d_b (p_d P) ∧ M.2.2 8 (9 * p + 2) = d_r (p_d P) ∧ M.2.2 8 (9 * p + 3) = d_n (p_d P) ∧ M.2.2 8 (9 * p + 4) = d_s (p_d P) ∧ M.2.2 8 (9 * p + 5) = d_g (p_d P)) ∧ okD (p_d P))
/-- the draft's contracts beside the books that the class fills -/
def cpB (M : q_Mo) (B : q_Bk) (nt np : Nat) : Prop := (∀ p, p < 24 → cpB1 M (b_p B p) p nt np) ∧ (∀ j, j < nt → ∃ n, n ≤ 12 ∧ r_dr M (nI j) 24 = nI n) ∧ B.2 = (fun _ => (fun _ => 0, 0, 0, 0), (1, 0, 1, 0, 0), 0)
theorem r_dr_B {M : q_Mo} {B : q_Bk} {nt np : Nat} {t : Int32} (h : cpB M B nt np) : r_dr M t 24 = q_bc (b_set B t 24) := by
  rw [b_set_n]; exact q_ac_c (fun k hk => by rw [(h.1 k hk).1])
theorem q_ac_upd {f g : Nat → Int32} {i : Int32} {p n : Nat} (h : ∀ k, k < n → ¬ k = p → g k = f k) (hp : p < n) : q_ac i g n = q_ac i f n + (g p - f p) := by
  induction n with
  | zero => exact absurd hp (by omega)
  | succ n ih =>
    rw [q_ac, q_ac]
    by_cases e : p = n
    · subst e
      rw [q_ac_c (g := f) (fun k hk => h k (by omega) (by omega)), Int32.add_assoc]
      congr 1
      rw [Int32.add_comm, Int32.sub_add_cancel]
    · rw [ih (fun k hk hne => h k (by omega) hne) (by omega), h n (by omega) (fun z => e z.symm), Int32.add_assoc, Int32.add_assoc, Int32.add_comm (f n)]
theorem rd_c4_tk {f : Nat → Int32} {r : q_Rd} {T : q_Te} {B : q_Bk} : rd_tk f (rd_c2 f r T B) (te_t T - 1) (fun v => !decide (q_bc (b_set B v 24) < 12)) = rd_c4 f r T B := by
  unfold rd_tk rd_c4 rd_c3
  by_cases e : q_bc (b_set B (rd_nb f (rd_c2 f r T B) 0 (te_t T - 1)).1 24) < 12
  · rw [if_neg (show ¬ (!decide (q_bc (b_set B (rd_nb f (rd_c2 f r T B) 0 (te_t T - 1)).1 24) < 12)) = true by rw [decide_eq_true e]; decide), if_pos e]
  · rw [if_pos (show (!decide (q_bc (b_set B (rd_nb f (rd_c2 f r T B) 0 (te_t T - 1)).1 24) < 12)) = true by rw [decide_eq_false e]; rfl), if_neg e]
theorem rd_c2_tk {f : Nat → Int32} {r : q_Rd} {T : q_Te} {B : q_Bk} : rd_tk f (rd_word f r 4) (te_p T - 1) (fun v => pl_has (b_p B v.toNatClampNeg)) = rd_c2 f r T B := rfl
theorem rd_tk_0 {f : Nat → Int32} {r : q_Rd} {N : Int32} {tk : Int32 → Bool} (e : (rd_tk f r N tk).ec = 0) : tk (rd_nb f r 0 N).1 = false ∧ rd_tk f r N tk = (rd_nb f r 0 N).2 := by
  unfold rd_tk at e ⊢
  by_cases q : tk (rd_nb f r 0 N).1 = true
  · rw [if_pos q] at e; exact absurd e (rd_fail_ne (by decide))
  · rw [if_neg q]
    exact ⟨by cases z : tk (rd_nb f r 0 N).1
              · rfl
              · exact absurd z q, rfl⟩
theorem rd_tk_ok {f : Nat → Int32} {r : q_Rd} {N : Int32} {tk : Int32 → Bool} (h : rd_ok r) (hk : 0 ≤ r.kd ∧ r.kd ≤ 4) : rd_ok (rd_tk f r N tk) ∧ (rd_tk f r N tk).ln = r.ln ∧ (0 ≤ (rd_tk f r N tk).kd ∧ (rd_tk f r N tk).kd ≤ 4) := by
  have h1 := rd_nb_ok (f := f) (lo := 0) (hi := N) h
  unfold rd_tk
  split
  · have h2 := rd_fail_ok (c := 4) (p := (rd_nb f r 0 N).2.na) h1.1
    exact ⟨h2.1, h2.2.trans h1.2, rd_fail_kd (rd_nb_kd hk)⟩
  · exact ⟨h1.1, h1.2, rd_nb_kd hk⟩
theorem rd_cr_e {f : Nat → Int32} {r : q_Rd} {T : q_Te} {B : q_Bk} : rd_cr f r T B = (if rd_bad (rd_ca f r T B) = true then rd_ca f r T B else rd_inc (rd_ca f r T B)) := rfl
theorem rd_cr_X {X : q_Rd} : (if rd_bad X = true then X else rd_inc X).ec = X.ec := by split <;> rfl
theorem rd_inc_ct {X : q_Rd} : (rd_inc X).ct = X.ct + 1 := rfl
theorem cpl_inc {M : q_Mo} {f : Nat → Int32} {X : q_Rd} (hc : cpl M f X) : cpl M f (if rd_bad X = true then X else rd_inc X) := by
  split
  · exact hc
  · exact hc
theorem rd_nb_inY {f : Nat → Int32} {r : q_Rd} {lo hi : Int32} {Y : Int32 × q_Rd} (hy : rd_nb f r lo hi = Y) (hle : lo ≤ hi) : lo ≤ Y.1 ∧ Y.1 ≤ hi := by subst hy; exact rd_nb_in hle
theorem cpB1_new {M : q_Mo} {P : q_Pl} {q j nt np : Nat} {x5 x6 x7 x8 x9 : Int32} (hn : p_n P = 0) (hq : q < np) (hj : j < nt) (m0 : M.2.2 8 (9 * q) = nI j) (m1 : M.2.2 8 (9 * q + 1) = x5) (m2 : M.2.2 8 (9 * q + 2) = x6) (m3 : M.2.2 8 (9 * q + 3) = x7) (m4 : M.2.2 8 (9 * q + 4) = x8) (m5 : M.2.2 8 (9 * q + 5) = x9) (g5 : 1 ≤ x5 ∧ x5 ≤ 99999) (g6 : 0 ≤ x6 ∧ x6 ≤ 20) (g7 : 1 ≤ x7 ∧ x7 ≤ 5) (g8 : 0 ≤ x8 ∧ x8 ≤ 99999) (g9 : 0 ≤ x9 ∧ x9 ≤ x7) : cpB1 M (pl_begin P (nI j) 0 (x5, x6, x7, x8, x9)) q nt np := by
  refine ⟨m0, rfl, ?_, fun _ => ⟨hq, ⟨j, hj, rfl⟩, rfl, ⟨m1, m2, m3, m4, m5⟩, ⟨g5, g6, g7, g8, g9⟩⟩⟩
  show (if p_l P = nI j then p_n P else 0) = 0
  rw [hn]; split <;> rfl
theorem cpl_semi_bad {M : q_Mo} {f : Nat → Int32} {r Z : q_Rd} (hy : rd_semi f r = Z) (hc : cpl M f r) (e : ¬ r.ec = 0) : cpl M f Z ∧ ¬ Z.ec = 0 := by
  subst hy
  have ca := rd_semi_b (f := f) e
  exact ⟨cpl_bad hc e ca.1 ca.2 (rd_semi_ok hc.2.2.2.2.2.1).2 (rd_semi_ok hc.2.2.2.2.2.1).1 (rd_semi_kd hc.2.2.2.2.2.2.1), fun z => e (rd_semi_0 z)⟩
theorem cpl_ct {M : q_Mo} {f : Nat → Int32} {r : q_Rd} (hc : cpl M f r) : cpl M f (rd_inc r) := hc
theorem rg_le {v lo hi : Int32} (h : rg v lo hi = true) : lo ≤ v ∧ v ≤ hi := ⟨Int32.not_lt.mp (of_decide_eq_true h).1, (of_decide_eq_true h).2⟩
theorem rd_nb_ct {f : Nat → Int32} {r : q_Rd} {lo hi : Int32} : (rd_nb f r lo hi).2.ct = r.ct := by
  unfold rd_nb; split
  · rfl
  · split
    · split
      · unfold rd_fail; split <;> rfl
      · exact rd_tok_ec.2.2.1
    · unfold rd_fail; split <;> rfl
theorem rd_fail_ct {r : q_Rd} {c p : Int32} : (rd_fail r c p).ct = r.ct := by unfold rd_fail; split <;> rfl
theorem rd_word_ct {f : Nat → Int32} {r : q_Rd} {i : Nat} : (rd_word f r i).ct = r.ct := by
  unfold rd_word; split
  · exact rd_tok_ec.2.2.1
  · exact rd_fail_ct
theorem rd_semi_ct {f : Nat → Int32} {r : q_Rd} : (rd_semi f r).ct = r.ct := by
  unfold rd_semi; split
  · exact rd_tok_ec.2.2.1
  · exact rd_fail_ct
theorem rd_ca_ct {f : Nat → Int32} {r : q_Rd} {T : q_Te} {B : q_Bk} : (rd_ca f r T B).ct = r.ct := by
  unfold rd_ca rd_c9; rw [rd_semi_ct, rd_nb_ct]; unfold rd_c8; rw [rd_nb_ct]; unfold rd_c7; rw [rd_nb_ct]; unfold rd_c6; rw [rd_nb_ct]; unfold rd_c5; rw [rd_nb_ct]
  unfold rd_c4
  have h3 : (rd_c3 f r T B).2.ct = r.ct := by
    unfold rd_c3; rw [rd_nb_ct]; unfold rd_c2
    have h1 : (rd_c1 f r T).2.ct = r.ct := by unfold rd_c1; rw [rd_nb_ct, rd_word_ct]
    split
    · rw [rd_fail_ct, h1]
    · exact h1
  split
  · exact h3
  · rw [rd_fail_ct, h3]
theorem mX9_readContract {a : Nat} {M : q_Mo} {f : Nat → Int32} {r : q_Rd} {T : q_Te} {B : q_Bk} {nt np : Nat} {P : q_H → Option Nat → Prop} (hM : isM h a M) (hc : cpl M f r) (hw : rd_is f r 4 = true) (hnt4 : 1 ≤ nt ∧ nt ≤ 4) (hnp : 1 ≤ np ∧ np ≤ 24) (hTt : te_t T = nI nt) (hTp : te_p T = nI np) (d5 : M.2.2 6 5 = nI nt) (d6 : M.2.2 6 6 = nI np) (hB : cpB M B nt np) (h28 : M.1 28 = r.ct) (hk : ∀ h2 M2, isM h2 a M2 → q_tz 8 28 M M2 → cpl M2 f (rd_cr f r T B) → ((rd_cr f r T B).ec = 0 → cpB M2 (rd_cB f r T B) nt np ∧ M2.1 28 = (rd_cr f r T B).ct) → q_out a 13 h h2 → P h2 z) : QMv V iX9_readContract [.ref a] h z P Kx := by
  have ho : q_out a 13 h h := q_out.refl
  refine eX9_readContract ?_
  refine wX9_readContract_0 ?_
  refine wX9_readContract_1 hM.c (mX9_next hM hc (fun h2 M1 hM T1 hc ho2 => ?_))
  have ho := ho.trans ho2
  have hc1 : cpl M1 f (rd_word f r 4) := by unfold rd_word; rw [if_pos hw]; exact hc
  have TX := T1
  have d6a : M1.2.2 6 6 = nI np := (T1.g 6 6).trans d6
  have htp : ∀ j, j < np → (if (1 : Int32) = 0 then decide (r_dr M1 (nI j) 24 = 12) else decide (¬ M1.2.2 8 (9 * j) = -1)) = pl_has (b_p B (nI j).toNatClampNeg) := fun j hj => by
    rw [if_neg (by decide), nI_clamp (by omega), T1.g 8 (9 * j), (hB.1 j (by omega)).1]; rfl
  refine wX9_readContract_4 ?_
  refine wX9_readContract_5 ?_
  refine wX9_readContract_6 hM.c ?_
  refine wX9_readContract_9 ?_
  refine wX9_readContract_11 hM.a6 (j := 6) rfl (by decide) (by decide) ?_
  refine wX9_readContract_12 ?_
  rw [d6a]
  refine wX9_readContract_13 hM.c (mX9_readTaker (m := np) (tk := fun v => pl_has (b_p B v.toNatClampNeg)) hM hc1 hnp (fun _ _ j hj _ => htp j hj) (fun h2 M2 v1 hM T2 hc hv1 ho2 => ?_))
  have ho := ho.trans ho2
  have TX := TX.t T2
  have d5a : M2.2.2 6 5 = nI nt := (TX.g 6 5).trans d5
  rw [← hTp, rd_c2_tk] at hc hv1
  have htt : ∀ j, j < nt → (if (0 : Int32) = 0 then decide (r_dr M2 (nI j) 24 = 12) else decide (¬ M2.2.2 8 (9 * j) = -1)) = (!decide (q_bc (b_set B (nI j) 24) < 12)) := fun j hj => by
    rw [if_pos rfl, show r_dr M2 (nI j) 24 = r_dr M (nI j) 24 from q_ac_c (fun k hk => by rw [TX.g 8 (9 * k)]), ← r_dr_B hB]
    obtain ⟨n, hn, en⟩ := hB.2.1 j hj
    rw [en]
    exact (by decide : ∀ n, n ≤ 12 → decide (nI n = 12) = !decide (nI n < 12)) n hn
  refine wX9_readContract_16 ?_
  refine wX9_readContract_17 ?_
  refine wX9_readContract_18 ?_
  refine wX9_readContract_19 hM.c ?_
  refine wX9_readContract_22 ?_
  refine wX9_readContract_23 hM.a6 (j := 5) rfl (by decide) (by decide) ?_
  refine wX9_readContract_24 ?_
  rw [d5a]
  refine wX9_readContract_25 hM.c (mX9_readTaker (m := nt) (tk := fun v => !decide (q_bc (b_set B v 24) < 12)) hM hc (by omega) (fun _ _ j hj _ => htt j hj) (fun h2 M3 v2 hM T3 hc hv2 ho2 => ?_))
  have ho := ho.trans ho2
  have TX := TX.t T3
  rw [← hTt, rd_c4_tk] at hc hv2
  refine wX9_readContract_28 ?_
  refine wX9_readContract_29 ?_
  refine wX9_readContract_30 ?_
  refine wX9_readContract_31 ?_
  refine wX9_readContract_33 hM.c (mX9_readY (Y := rd_c5 f r T B) rfl hM hc (fun h2 M4 v3 hM T4 hc hv3 ho2 => ?_))
  have ho := ho.trans ho2
  have TX := TX.t T4
  refine wX9_readContract_36 ?_
  refine wX9_readContract_37 ?_
  refine wX9_readContract_38 ?_
  refine wX9_readContract_39 ?_
  refine wX9_readContract_41 hM.c (mX9_readY (Y := rd_c6 f r T B) rfl hM hc (fun h2 M5 v4 hM T5 hc hv4 ho2 => ?_))
  have ho := ho.trans ho2
  have TX := TX.t T5
  refine wX9_readContract_44 ?_
  refine wX9_readContract_46 ?_
  refine wX9_readContract_47 ?_
  refine wX9_readContract_48 ?_
  refine wX9_readContract_49 hM.c (mX9_readY (Y := rd_c7 f r T B) rfl hM hc (fun h2 M6 v5 hM T6 hc hv5 ho2 => ?_))
  have ho := ho.trans ho2
  have TX := TX.t T6
  refine wX9_readContract_52 ?_
  refine wX9_readContract_54 ?_
  refine wX9_readContract_55 ?_
  refine wX9_readContract_56 ?_
  refine wX9_readContract_58 hM.c (mX9_readY (Y := rd_c8 f r T B) rfl hM hc (fun h2 M7 v6 hM T7 hc hv6 ho2 => ?_))
  have ho := ho.trans ho2
  have TX := TX.t T7
  have hc9 : rd_nb f (rd_c8 f r T B).2 0 v5 = rd_c9 f r T B := by
    unfold rd_c9
    by_cases e : (rd_c8 f r T B).2.ec = 0
    · rw [hv5 (rd_nb_0Y (f := f) (Y := rd_c8 f r T B) (lo := 0) (hi := 99999) rfl e)]
    · rw [rd_nb_b e, rd_nb_b e]
  refine wX9_readContract_61 ?_
  refine wX9_readContract_63 ?_
  refine wX9_readContract_64 ?_
  refine wX9_readContract_65 ?_
  refine wX9_readContract_67 hM.c (mX9_readY (Y := rd_c9 f r T B) hc9 hM hc (fun h2 M8 v7 hM T8 hc hv7 ho2 => ?_))
  have ho := ho.trans ho2
  have TX := TX.t T8
  refine wX9_readContract_70 ?_
  refine wX9_readContract_72 ?_
  refine wX9_readContract_73 hM.c (mX9_isFine hM ?_)
  refine wX9_readContract_76 (fun c76 => ?_) (fun c76 => ?_)
  · have e9 : (rd_c9 f r T B).2.ec = 0 := hc.2.2.2.1.symm.trans (of_decide_eq_true (q_b1 c76))
    have e8 : (rd_c8 f r T B).2.ec = 0 := rd_nb_0Y (f := f) (Y := rd_c9 f r T B) (lo := 0) (hi := (rd_c7 f r T B).1) rfl e9
    have e7 : (rd_c7 f r T B).2.ec = 0 := rd_nb_0Y (f := f) (Y := rd_c8 f r T B) (lo := 0) (hi := 99999) rfl e8
    have e6 : (rd_c6 f r T B).2.ec = 0 := rd_nb_0Y (f := f) (Y := rd_c7 f r T B) (lo := 1) (hi := 5) rfl e7
    have e5 : (rd_c5 f r T B).2.ec = 0 := rd_nb_0Y (f := f) (Y := rd_c6 f r T B) (lo := 0) (hi := 20) rfl e6
    have e4 : (rd_c4 f r T B).ec = 0 := rd_nb_0Y (f := f) (Y := rd_c5 f r T B) (lo := 1) (hi := 99999) rfl e5
    have t4 := rd_tk_0 (f := f) (r := rd_c2 f r T B) (N := te_t T - 1) (tk := fun v => !decide (q_bc (b_set B v 24) < 12)) (by rw [rd_c4_tk]; exact e4)
    have e3 : (rd_c3 f r T B).2.ec = 0 := by
      have := t4.2
      rw [rd_c4_tk] at this
      unfold rd_c3; rw [← this]; exact e4
    have e2 : (rd_c2 f r T B).ec = 0 := rd_nb_0Y (f := f) (Y := rd_c3 f r T B) (lo := 0) (hi := te_t T - 1) rfl e3
    have t2 := rd_tk_0 (f := f) (r := rd_word f r 4) (N := te_p T - 1) (tk := fun v => pl_has (b_p B v.toNatClampNeg)) (by rw [rd_c2_tk]; exact e2)
    have e1 : (rd_c1 f r T).2.ec = 0 := by
      have := t2.2
      rw [rd_c2_tk] at this
      unfold rd_c1; rw [← this]; exact e2
    have w1 : v1 = (rd_c1 f r T).1 := hv1 e2
    have w2 : v2 = (rd_c3 f r T B).1 := hv2 e4
    have w3 := hv3 e5
    have w4 := hv4 e6
    have w5 := hv5 e7
    have w6 := hv6 e8
    have w7 := hv7 e9
    have g1 := rd_nb_in (f := f) (r := rd_word f r 4) (lo := 0) (hi := te_p T - 1) (by rw [hTp, show nI np - 1 = nI (np - 1) from nI_sb (b := 1) (by omega)]; exact nI_pos' (by omega))
    obtain ⟨p, hp, ep⟩ : ∃ p, p < np ∧ (rd_c1 f r T).1 = nI p := rg_of (k := np) (m := 24) (by omega) (by decide) hTp (decide_eq_true ⟨Int32.not_lt.mpr g1.1, g1.2⟩)
    have g3 := rd_nb_in (f := f) (r := rd_c2 f r T B) (lo := 0) (hi := te_t T - 1) (by rw [hTt, show nI nt - 1 = nI (nt - 1) from nI_sb (b := 1) (by omega)]; exact nI_pos' (by omega))
    obtain ⟨j, hj, ej⟩ : ∃ j, j < nt ∧ (rd_c3 f r T B).1 = nI j := rg_of (k := nt) (m := 4) (by omega) (by decide) hTt (decide_eq_true ⟨Int32.not_lt.mpr g3.1, g3.2⟩)
    have g5 : 1 ≤ (rd_c5 f r T B).1 ∧ (rd_c5 f r T B).1 ≤ 99999 := rd_nb_inY (f := f) (Y := rd_c5 f r T B) rfl (by decide)
    have g6 : 0 ≤ (rd_c6 f r T B).1 ∧ (rd_c6 f r T B).1 ≤ 20 := rd_nb_inY (f := f) (Y := rd_c6 f r T B) rfl (by decide)
    have g7 : 1 ≤ (rd_c7 f r T B).1 ∧ (rd_c7 f r T B).1 ≤ 5 := rd_nb_inY (f := f) (Y := rd_c7 f r T B) rfl (by decide)
    have g8 : 0 ≤ (rd_c8 f r T B).1 ∧ (rd_c8 f r T B).1 ≤ 99999 := rd_nb_inY (f := f) (Y := rd_c8 f r T B) rfl (by decide)
    have g9 : 0 ≤ (rd_c9 f r T B).1 ∧ (rd_c9 f r T B).1 ≤ (rd_c7 f r T B).1 := rd_nb_inY (f := f) (Y := rd_c9 f r T B) rfl (Int32.le_trans (by decide : (0 : Int32) ≤ 1) g7.1)
    rw [w1, ep]
    refine wX9_readContract_80 ?_
    refine wX9_readContract_82 ?_
    refine wX9_readContract_83 ?_
    refine wX9_readContract_84 ?_
    rw [show (9 : Int32) * nI p = nI (9 * p) from nI_mul 9 p]
    refine wX9_readContract_86 ?_
    refine wX9_readContract_87 hM.c ?_
    refine wX9_readContract_90 ?_
    refine wX9_readContract_92 ?_
    refine wX9_readContract_93 hM.a8 rfl (show 9 * p < 216 by omega) (by decide) ?_
    refine q_nI (k := 8) (by decide) hM ho (fun h2 hM ho => ?_)
    have hM : isM h2 a (mIr M8 8 (upd (M8.2.2 8) (9 * p) v2)) := hM
    refine wX9_readContract_94 ?_
    refine wX9_readContract_95 hM.c ?_
    refine wX9_readContract_98 ?_
    refine wX9_readContract_100 ?_
    refine wX9_readContract_101 ?_
    rw [show nI (9 * p) + (1 : Int32) = nI (9 * p + 1) from nI_add (9 * p) 1]
    refine wX9_readContract_102 ?_
    refine wX9_readContract_103 hM.a8 rfl (show 9 * p + 1 < 216 by omega) (by decide) ?_
    refine q_nI (k := 8) (by decide) hM ho (fun h2 hM ho => ?_)
    have hM : isM h2 a (mIr M8 8 (upd ((upd (M8.2.2 8) (9 * p) v2)) (9 * p + 1) v3)) := hM.e mIr_2
    refine wX9_readContract_104 ?_
    refine wX9_readContract_105 hM.c ?_
    refine wX9_readContract_108 ?_
    refine wX9_readContract_110 ?_
    refine wX9_readContract_111 ?_
    rw [show nI (9 * p) + (2 : Int32) = nI (9 * p + 2) from nI_add (9 * p) 2]
    refine wX9_readContract_112 ?_
    refine wX9_readContract_114 hM.a8 rfl (show 9 * p + 2 < 216 by omega) (by decide) ?_
    refine q_nI (k := 8) (by decide) hM ho (fun h2 hM ho => ?_)
    have hM : isM h2 a (mIr M8 8 (upd ((upd ((upd (M8.2.2 8) (9 * p) v2)) (9 * p + 1) v3)) (9 * p + 2) v4)) := hM.e mIr_2
    refine wX9_readContract_115 ?_
    refine wX9_readContract_116 hM.c ?_
    refine wX9_readContract_119 ?_
    refine wX9_readContract_121 ?_
    refine wX9_readContract_122 ?_
    rw [show nI (9 * p) + (3 : Int32) = nI (9 * p + 3) from nI_add (9 * p) 3]
    refine wX9_readContract_123 ?_
    refine wX9_readContract_125 hM.a8 rfl (show 9 * p + 3 < 216 by omega) (by decide) ?_
    refine q_nI (k := 8) (by decide) hM ho (fun h2 hM ho => ?_)
    have hM : isM h2 a (mIr M8 8 (upd ((upd ((upd ((upd (M8.2.2 8) (9 * p) v2)) (9 * p + 1) v3)) (9 * p + 2) v4)) (9 * p + 3) v5)) := hM.e mIr_2
    refine wX9_readContract_126 ?_
    refine wX9_readContract_127 hM.c ?_
    refine wX9_readContract_130 ?_
    refine wX9_readContract_132 ?_
    refine wX9_readContract_133 ?_
    rw [show nI (9 * p) + (4 : Int32) = nI (9 * p + 4) from nI_add (9 * p) 4]
    refine wX9_readContract_134 ?_
    refine wX9_readContract_136 hM.a8 rfl (show 9 * p + 4 < 216 by omega) (by decide) ?_
    refine q_nI (k := 8) (by decide) hM ho (fun h2 hM ho => ?_)
    have hM : isM h2 a (mIr M8 8 (upd ((upd ((upd ((upd ((upd (M8.2.2 8) (9 * p) v2)) (9 * p + 1) v3)) (9 * p + 2) v4)) (9 * p + 3) v5)) (9 * p + 4) v6)) := hM.e mIr_2
    refine wX9_readContract_137 ?_
    refine wX9_readContract_138 hM.c ?_
    refine wX9_readContract_141 ?_
    refine wX9_readContract_143 ?_
    refine wX9_readContract_144 ?_
    rw [show nI (9 * p) + (5 : Int32) = nI (9 * p + 5) from nI_add (9 * p) 5]
    refine wX9_readContract_145 ?_
    refine wX9_readContract_147 hM.a8 rfl (show 9 * p + 5 < 216 by omega) (by decide) ?_
    refine q_nI (k := 8) (by decide) hM ho (fun h2 hM ho => ?_)
    have hM : isM h2 a (mIr M8 8 (upd ((upd ((upd ((upd ((upd ((upd (M8.2.2 8) (9 * p) v2)) (9 * p + 1) v3)) (9 * p + 2) v4)) (9 * p + 3) v5)) (9 * p + 4) v6)) (9 * p + 5) v7)) := hM.e mIr_2
    have hc := cpl_i (k := 8) (g := (upd ((upd ((upd ((upd ((upd ((upd (M8.2.2 8) (9 * p) v2)) (9 * p + 1) v3)) (9 * p + 2) v4)) (9 * p + 3) v5)) (9 * p + 4) v6)) (9 * p + 5) v7)) hc (by decide)
    have TZ : q_tz 8 28 M (mIr M8 8 (upd ((upd ((upd ((upd ((upd ((upd (M8.2.2 8) (9 * p) v2)) (9 * p + 1) v3)) (9 * p + 2) v4)) (9 * p + 3) v5)) (9 * p + 4) v6)) (9 * p + 5) v7)) := q_tz.i (q_tz.r.x TX)
    refine wX9_readContract_148 ?_
    refine wX9_readContract_149 hM.c (mX9_semiY (Y := rd_ca f r T B) rfl hM hc (fun h2 M9 hM T9 hc ho2 => ?_))
    have ho := ho.trans ho2
    have TZ := TZ.x T9
    refine wX9_readContract_152 ?_
    refine wX9_readContract_153 ?_
    refine wX9_readContract_154 hM.c ?_
    refine wX9_readContract_157 ?_
    refine wX9_readContract_158 ?_
    refine wX9_readContract_159 hM.c ?_
    refine q_sx (k := 28) hM ho (fun h2 hM ho => ?_)
    refine wX9_readContract_162  ?_
    have h28a : M9.1 28 = r.ct := (T9.2 28 (by decide)).trans ((TX.2 28 (by decide)).trans h28)
    have hcr : cpl (mS M9 28 (M9.1 28 + 1)) f (rd_cr f r T B) := by rw [rd_cr_e]; exact cpl_inc (cpl_s hc (by decide))
    refine hk _ _ hM (q_tz.s TZ) hcr (fun z => ?_) ho
    have eca : (rd_ca f r T B).ec = 0 := by rw [rd_cr_e, rd_cr_X] at z; exact z
    have ecr : rd_cr f r T B = rd_inc (rd_ca f r T B) := by rw [rd_cr_e, if_neg (by rw [rd_bad_e eca]; decide)]
    have ecp : rd_cp f r T = p := by unfold rd_cp; rw [ep, nI_clamp (by omega)]
    have ecB : rd_cB f r T B = b_sP B p (pl_begin (b_p B p) (nI j) 0 ((rd_c5 f r T B).1, (rd_c6 f r T B).1, (rd_c7 f r T B).1, (rd_c8 f r T B).1, (rd_c9 f r T B).1)) := by
      unfold rd_cB; rw [if_neg (by rw [rd_bad_e eca]; decide), ecp, ej]
    have hct : (rd_ca f r T B).ct = r.ct := rd_ca_ct
    refine ⟨?_, show M9.1 28 + 1 = _ by rw [h28a, ecr, rd_inc_ct, hct]⟩
    rw [ecB]
    have m9 : ∀ q, M9.2.2 8 q = (upd ((upd ((upd ((upd ((upd ((upd (M8.2.2 8) (9 * p) v2)) (9 * p + 1) v3)) (9 * p + 2) v4)) (9 * p + 3) v5)) (9 * p + 4) v6)) (9 * p + 5) v7) q := fun q => T9.g 8 q
    have mo : ∀ q, (¬ (9 * p ≤ q ∧ q ≤ 9 * p + 5)) → M9.2.2 8 q = M.2.2 8 q := fun q hq => by
      rw [m9, upd_n (by omega), upd_n (by omega), upd_n (by omega), upd_n (by omega), upd_n (by omega), upd_n (by omega)]
      exact TX.g 8 q
    have m0 : M9.2.2 8 (9 * p) = nI j := by
      rw [m9, upd_n (by omega), upd_n (by omega), upd_n (by omega), upd_n (by omega), upd_n (by omega), upd_s, w2, ej]
    have m1 : M9.2.2 8 (9 * p + 1) = (rd_c5 f r T B).1 := by rw [m9, upd_n (by omega), upd_n (by omega), upd_n (by omega), upd_n (by omega), upd_s, w3]
    have m2 : M9.2.2 8 (9 * p + 2) = (rd_c6 f r T B).1 := by rw [m9, upd_n (by omega), upd_n (by omega), upd_n (by omega), upd_s, w4]
    have m3 : M9.2.2 8 (9 * p + 3) = (rd_c7 f r T B).1 := by rw [m9, upd_n (by omega), upd_n (by omega), upd_s, w5]
    have m4 : M9.2.2 8 (9 * p + 4) = (rd_c8 f r T B).1 := by rw [m9, upd_n (by omega), upd_s, w6]
    have m5 : M9.2.2 8 (9 * p + 5) = (rd_c9 f r T B).1 := by rw [m9, upd_s, w7]
    have hnt : ¬ pl_has (b_p B p) = true := by
      have q : pl_has (b_p B (rd_c1 f r T).1.toNatClampNeg) = false := t2.1
      rw [ep, nI_clamp (by omega)] at q
      rw [q]; decide
    have hpt : p_t (b_p B p) = -1 := Classical.byContradiction fun q => hnt (decide_eq_true q)
    refine ⟨fun q hq => ?_, fun j2 hj2 => ?_, hB.2.2⟩
    · by_cases e : q = p
      · subst e
        have eb : b_p (b_sP B q (pl_begin (b_p B q) (nI j) 0 ((rd_c5 f r T B).1, (rd_c6 f r T B).1, (rd_c7 f r T B).1, (rd_c8 f r T B).1, (rd_c9 f r T B).1))) q = pl_begin (b_p B q) (nI j) 0 ((rd_c5 f r T B).1, (rd_c6 f r T B).1, (rd_c7 f r T B).1, (rd_c8 f r T B).1, (rd_c9 f r T B).1) := if_pos rfl
        rw [eb]
        exact cpB1_new (hB.1 q hq).2.2.1 hp hj m0 m1 m2 m3 m4 m5 g5 g6 g7 g8 g9
      · have eb : b_p (b_sP B p (pl_begin (b_p B p) (nI j) 0 ((rd_c5 f r T B).1, (rd_c6 f r T B).1, (rd_c7 f r T B).1, (rd_c8 f r T B).1, (rd_c9 f r T B).1))) q = b_p B q := if_neg e
        rw [eb]
        obtain ⟨k1, k2, k3, k4⟩ := hB.1 q hq
        refine ⟨(mo _ (by omega)).trans k1, k2, k3, fun hh => ?_⟩
        obtain ⟨u1, u2, u3, ⟨u4, u5, u6, u7, u8⟩, u9⟩ := k4 hh
        exact ⟨u1, u2, u3, ⟨(mo _ (by omega)).trans u4, (mo _ (by omega)).trans u5, (mo _ (by omega)).trans u6, (mo _ (by omega)).trans u7, (mo _ (by omega)).trans u8⟩, u9⟩
    · obtain ⟨n, hn, en⟩ := hB.2.1 j2 hj2
      have hup : r_dr M9 (nI j2) 24 = r_dr M (nI j2) 24 + ((if M9.2.2 8 (9 * p) = nI j2 then 1 else 0) - (if M.2.2 8 (9 * p) = nI j2 then 1 else 0)) := q_ac_upd (fun k hk hne => by rw [mo _ (by omega)]) (by omega)
      have hz : ¬ M.2.2 8 (9 * p) = nI j2 := by
        rw [(hB.1 p (by omega)).1, hpt]
        exact fun z => (by decide : ∀ j, j < 4 → ¬ -1 = nI j) j2 (by omega) z
      rw [if_neg hz, m0, en] at hup
      by_cases e : j = j2
      · subst e
        rw [if_pos rfl] at hup
        have hlt : q_bc (b_set B (nI j) 24) < 12 := by
          have q : (!decide (q_bc (b_set B (rd_c3 f r T B).1 24) < 12)) = false := t4.1
          rw [ej] at q
          cases hd : decide (q_bc (b_set B (nI j) 24) < 12)
          · rw [hd] at q; cases q
          · exact of_decide_eq_true hd
        rw [← r_dr_B hB, en] at hlt
        have hn12 : n < 12 := nI_lto (by omega) (b := 12) hlt
        exact ⟨n + 1, by omega, by show r_dr M9 (nI j) 24 = _; rw [hup, ← nI_1]; rfl⟩
      · have hne : ¬ nI j = nI j2 := fun z => e (nI_inj (by omega) (by omega) z)
        rw [if_neg hne] at hup
        exact ⟨n, hn, by show r_dr M9 (nI j2) 24 = _; rw [hup]; exact Int32.add_zero _⟩
  · refine wX9_readContract_79  ?_
    have e9 : ¬ (rd_c9 f r T B).2.ec = 0 := fun z => (of_decide_eq_false (q_b0 c76)) (hc.2.2.2.1.trans z)
    obtain ⟨k1, nca⟩ := cpl_semi_bad (Z := rd_ca f r T B) rfl hc e9
    have ecr : rd_cr f r T B = rd_ca f r T B := by rw [rd_cr_e, if_pos (rd_bad_ne nca)]
    have ncr : ¬ (rd_cr f r T B).ec = 0 := by rw [ecr]; exact nca
    have k2 : cpl M8 f (rd_cr f r T B) := by rw [ecr]; exact k1
    exact hk _ _ hM (q_tz.r.x TX) k2 (fun z => absurd z ncr) ho
end CX9k

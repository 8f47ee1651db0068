/-! readBrackets -/
section CX4b
variable {V : q_En} {h : q_H} {z : Option Nat} {Kx : q_KX}
theorem mX4_br_lp {a td N L e b : Nat} {f : Nat → Int32} {B : q_Bk} {Kr : q_KR} (hG : rd_G a td e b N L) : ∀ n k (hh : q_H) (r : q_Rd) (T : q_Te), k + n = 4 → te_n T = nI k → rd_Q hh a td N L f e b r T B → (∀ h3, rd_Q h3 a td N L f e b (rd_bl f n k r T).1 (rd_bl f n k r T).2 B → q_fr (rd_A a e b) hh h3 → QW V iX4_readBrackets 66 [some (.ref a), some (.ref e), none, none, none] [] h3 z 0 0 Kr Kx) → QW V iX4_readBrackets 7 [some (.ref a), some (.ref e), some (.int (nI k)), none, none] [] hh z 0 0 Kr Kx := by
  intro n
  induction n with
  | zero =>
    intro k hh r T hkn hn hQ kk
    refine wX4_readBrackets_7 ?_
    refine wX4_readBrackets_8 ?_
    refine wX4_readBrackets_9 (fun c9 => ?_) (fun c9 => absurd (by exact nI_le (a := 4) (by omega) (by omega)) c9)
    exact q_drp 2 (kk hh hQ q_fr.refl)
  | succ n ih =>
    intro k hh r T hkn hn hQ kk
    have ho : q_fr (rd_A a e b) hh hh := q_fr.refl
    refine wX4_readBrackets_7 ?_
    refine wX4_readBrackets_8 ?_
    refine wX4_readBrackets_9 (fun c9 => absurd c9 (nI_ge (b := 4) (by omega) (by decide))) (fun c9 => ?_)
    refine wX4_readBrackets_12 ?_
    refine wX4_readBrackets_13 (fun c13 => ?_) (fun c13 => ?_)
    · refine wX4_readBrackets_25 ?_
      refine wX4_readBrackets_26 ?_
      refine wX4_readBrackets_28 hQ.1 (bX4_takeWord hG (i := 1) (by decide) hQ (r2 := _) rfl fun h2 hQ2 ho2 => ?_)
      replace hQ := hQ2
      replace ho := ho.trans ho2
      refine wX4_readBrackets_31 ?_
      refine wX4_readBrackets_32 ?_
      refine wX4_readBrackets_33 ?_
      refine wX4_readBrackets_35 hQ.1 (bX4_takeNumber hG hQ (y := rd_b1 f r) rfl fun h2 hQ2 ho2 => ?_)
      replace hQ := hQ2
      replace ho := ho.trans ho2
      refine wX4_readBrackets_38 ?_
      refine wX4_readBrackets_39 ?_
      refine wX4_readBrackets_40 ?_
      refine wX4_readBrackets_41 ?_
      refine wX4_readBrackets_44 hQ.1 (bX4_takeNumber hG hQ (y := rd_b2 f r) rfl fun h2 hQ2 ho2 => ?_)
      replace hQ := hQ2
      replace ho := ho.trans ho2
      refine wX4_readBrackets_47 ?_
      refine wX4_readBrackets_49 ?_
      refine wX4_readBrackets_50 hQ.1 (bX4_takeSemicolon hG hQ (r2 := rd_b3 f r) rfl fun h2 hQ2 ho2 => ?_)
      replace hQ := hQ2
      replace ho := ho.trans ho2
      refine wX4_readBrackets_53 ?_
      refine wX4_readBrackets_54 ?_
      refine wX4_readBrackets_55 ?_
      refine wX4_readBrackets_57 hQ.E.1 (mX7_addBracket hQ.E hn (by omega) fun h2 hE2 ho2 => ?_)
      obtain ⟨hQ2, ho3⟩ := hQ.sE hG (T' := te_ab T k (rd_b1 f r).1 (rd_b2 f r).1) hE2 ho2
      replace ho := ho.trans ho3
      replace hQ := hQ2
      clear ho2
      refine wX4_readBrackets_60 ?_
      refine wX4_readBrackets_63 ?_
      have hcond : k = 0 ∨ rd_is f r 1 = true := by
        first
          | exact Or.inl (nI_z0 k (by omega) c13)
          | exact Or.inr (q_b1 c22)
      rw [rd_bl, if_pos hcond] at kk
      refine q_drp 3 (q_drp 4 (q_ls (by rw [nI_1]; rfl) (ih (k + 1) _ _ _ (by omega) (by show te_n T + 1 = _; rw [hn, nI_1]) hQ fun h3 hQ3 ho3 => kk h3 hQ3 (ho.trans ho3))))
    · refine wX4_readBrackets_16 ?_
      refine wX4_readBrackets_17 ?_
      refine wX4_readBrackets_19 hQ.1 (bX4_isWord hG (i := 1) (by decide) hQ ?_)
      refine wX4_readBrackets_22 (fun c22 => ?_) (fun c22 => ?_)
      · rw [rd_bl, if_neg (fun q => q.elim (fun q => c13 (by rw [q]; rfl)) (fun q => by rw [q_b0 c22] at q; cases q))] at kk
        exact q_drp 2 (kk _ hQ ho)
      · refine wX4_readBrackets_25 ?_
        refine wX4_readBrackets_26 ?_
        refine wX4_readBrackets_28 hQ.1 (bX4_takeWord hG (i := 1) (by decide) hQ (r2 := _) rfl fun h2 hQ2 ho2 => ?_)
        replace hQ := hQ2
        replace ho := ho.trans ho2
        refine wX4_readBrackets_31 ?_
        refine wX4_readBrackets_32 ?_
        refine wX4_readBrackets_33 ?_
        refine wX4_readBrackets_35 hQ.1 (bX4_takeNumber hG hQ (y := rd_b1 f r) rfl fun h2 hQ2 ho2 => ?_)
        replace hQ := hQ2
        replace ho := ho.trans ho2
        refine wX4_readBrackets_38 ?_
        refine wX4_readBrackets_39 ?_
        refine wX4_readBrackets_40 ?_
        refine wX4_readBrackets_41 ?_
        refine wX4_readBrackets_44 hQ.1 (bX4_takeNumber hG hQ (y := rd_b2 f r) rfl fun h2 hQ2 ho2 => ?_)
        replace hQ := hQ2
        replace ho := ho.trans ho2
        refine wX4_readBrackets_47 ?_
        refine wX4_readBrackets_49 ?_
        refine wX4_readBrackets_50 hQ.1 (bX4_takeSemicolon hG hQ (r2 := rd_b3 f r) rfl fun h2 hQ2 ho2 => ?_)
        replace hQ := hQ2
        replace ho := ho.trans ho2
        refine wX4_readBrackets_53 ?_
        refine wX4_readBrackets_54 ?_
        refine wX4_readBrackets_55 ?_
        refine wX4_readBrackets_57 hQ.E.1 (mX7_addBracket hQ.E hn (by omega) fun h2 hE2 ho2 => ?_)
        obtain ⟨hQ2, ho3⟩ := hQ.sE hG (T' := te_ab T k (rd_b1 f r).1 (rd_b2 f r).1) hE2 ho2
        replace ho := ho.trans ho3
        replace hQ := hQ2
        clear ho2
        refine wX4_readBrackets_60 ?_
        refine wX4_readBrackets_63 ?_
        have hcond : k = 0 ∨ rd_is f r 1 = true := by
          first
            | exact Or.inl (nI_z0 k (by omega) c13)
            | exact Or.inr (q_b1 c22)
        rw [rd_bl, if_pos hcond] at kk
        refine q_drp 3 (q_drp 4 (q_ls (by rw [nI_1]; rfl) (ih (k + 1) _ _ _ (by omega) (by show te_n T + 1 = _; rw [hn, nI_1]) hQ fun h3 hQ3 ho3 => kk h3 hQ3 (ho.trans ho3))))
theorem mX4_readBrackets {a td N L e b : Nat} {f : Nat → Int32} {r : q_Rd} {T : q_Te} {B : q_Bk} {P : q_H → Option Nat → Prop} (hG : rd_G a td e b N L) (hQ : rd_Q h a td N L f e b r T B) (hk : ∀ h', rd_Q h' a td N L f e b (rd_bf f (rd_b5 f r T).1) (rd_b5 f r T).2 B → q_fr (rd_A a e b) h h' → P h' z) : QMv V iX4_readBrackets [.ref a, .ref e] h z P Kx := by
  have ho : q_fr (rd_A a e b) h h := q_fr.refl
  refine eX4_readBrackets ?_
  refine wX4_readBrackets_0 ?_
  refine wX4_readBrackets_1 ?_
  refine wX4_readBrackets_2 hQ.E.1 ?_
  obtain ⟨hQ2, ho2⟩ := hQ.sN hG (0)
  replace ho := ho.trans ho2
  replace hQ := hQ2
  clear hQ2 ho2
  refine wX4_readBrackets_5 ?_
  refine wX4_readBrackets_6 ?_
  refine mX4_br_lp hG 4 0 _ _ _ rfl rfl hQ fun h2 hQ2 ho2 => ?_
  replace hQ : rd_Q h2 a td N L f e b (rd_b5 f r T).1 (rd_b5 f r T).2 B := hQ2
  replace ho := ho.trans ho2
  clear hQ2 ho2
  refine wX4_readBrackets_66 ?_
  refine wX4_readBrackets_67 ?_
  refine wX4_readBrackets_69 hQ.1 (bX4_isWord hG (i := 1) (by decide) hQ ?_)
  refine wX4_readBrackets_72 (fun c72 => ?_) (fun c72 => ?_)
  · refine wX4_readBrackets_84  ?_
    first
      | (have hb := q_b0 c72
         have e1 : rd_bf f (rd_b5 f r T).1 = (rd_b5 f r T).1 := by rw [rd_bf, if_neg (by rw [hb]; decide)]
         rw [e1] at hk
         exact hk _ hQ ho)
      | exact hk _ hQ ho
  · refine wX4_readBrackets_75 ?_
    refine wX4_readBrackets_76 ?_
    refine wX4_readBrackets_77 ?_
    refine wX4_readBrackets_78 hQ.1 ?_
    refine wX4_readBrackets_81 hQ.1 (bX4_fail hG hQ (r2 := rd_bf f (rd_b5 f r T).1) (by rw [rd_bf, if_pos (q_b1 c72)]) fun h2 hQ2 ho2 => ?_)
    replace hQ := hQ2
    replace ho := ho.trans ho2
    refine wX4_readBrackets_84  ?_
    first
      | (have hb := q_b0 c72
         have e1 : rd_bf f (rd_b5 f r T).1 = (rd_b5 f r T).1 := by rw [rd_bf, if_neg (by rw [hb]; decide)]
         rw [e1] at hk
         exact hk _ hQ ho)
      | exact hk _ hQ ho
end CX4b

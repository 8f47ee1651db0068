/-! readContract -/
section CX4b
variable {V : q_En} {h : q_H} {z : Option Nat} {Kx : q_KX}
theorem rd_c1_j {f : Nat → Int32} {r : q_Rd} {T : q_Te} {np : Nat} (hp1 : 1 ≤ np) (hp24 : np ≤ 24) (hp : te_p T = nI np) : ∃ j, j < 24 ∧ (rd_c1 f r T).1 = nI j := by
  have e : te_p T - 1 = nI (np - 1) := by rw [hp]; exact nI_sb (b := 1) hp1
  have hin := rd_nb_in (f := f) (r := rd_word f r 4) (lo := 0) (hi := te_p T - 1) (by rw [e]; exact nI_le (a := 0) (by omega) (by omega))
  refine q_of (N := 24) (n := 24) rfl (by decide) ?_ ?_
  · rw [Int32.not_lt]; exact hin.1
  · intro q
    have := Int32.le_trans q hin.2
    rw [e] at this
    exact nI_ge (b := 24) (show np - 1 < 24 by omega) (by decide) this
theorem mX4_readContract {a td N L e b : Nat} {f : Nat → Int32} {r : q_Rd} {T : q_Te} {B : q_Bk} {np : Nat} {P : q_H → Option Nat → Prop} (hG : rd_G a td e b N L) (hQ : rd_Q h a td N L f e b r T B) (hp1 : 1 ≤ np) (hp24 : np ≤ 24) (hp : te_p T = nI np) (hk : ∀ h', rd_Q h' a td N L f e b (rd_cr f r T B) T (rd_cB f r T B) → q_fr (rd_A a e b) h h' → P h' z) : QMv V iX4_readContract [.ref a, .ref e, .ref b] h z P Kx := by
  have ho : q_fr (rd_A a e b) h h := q_fr.refl
  obtain ⟨j, hj24, hjq⟩ : ∃ j, j < 24 ∧ (rd_c1 f r T).1 = nI j := rd_c1_j hp1 hp24 hp
  have hcp : rd_cp f r T = j := by unfold rd_cp; rw [hjq]; exact nI_clamp (by omega)
  have gg := hG
  obtain ⟨g1, g2, g3, g4, -⟩ := gg
  refine eX4_readContract ?_
  refine wX4_readContract_0 ?_
  refine wX4_readContract_1 ?_
  refine wX4_readContract_3 hQ.1 (bX4_takeWord hG (i := 4) (by decide) hQ (r2 := _) rfl fun h2 hQ2 ho2 => ?_)
  replace hQ := hQ2
  replace ho := ho.trans ho2
  refine wX4_readContract_6 ?_
  refine wX4_readContract_7 ?_
  refine wX4_readContract_8 ?_
  refine wX4_readContract_9 hQ.E.1 ?_
  refine wX4_readContract_12 ?_
  refine wX4_readContract_13 ?_
  refine wX4_readContract_14 hQ.1 (bX4_takeNumber hG hQ (y := rd_c1 f r T) rfl fun h2 hQ2 ho2 => ?_)
  replace hQ := hQ2
  replace ho := ho.trans ho2
  refine wX4_readContract_17 ?_
  refine wX4_readContract_18 ?_
  refine wX4_readContract_19 hQ.bk.1 ?_
  refine wX4_readContract_22 ?_
  refine wX4_readContract_23 (t := 4) rfl hQ.bk.2.1 hjq hj24 (by decide) (if_pos hj24) ?_
  refine wX4_readContract_24 (hQ.bk.P hj24).1 (mX3_hasContract (hQ.bk.P hj24) ?_)
  refine wX4_readContract_27 (fun c27 => ?_) (fun c27 => ?_)
  · first
      | (have hb := q_b0 c27
         have e1 : rd_c2 f r T B = (rd_c1 f r T).2 := by rw [rd_c2, hcp, if_neg (by rw [hb]; decide)]
         rw [← e1] at hQ)
      | skip
    refine wX4_readContract_39 ?_
    refine wX4_readContract_40 ?_
    refine wX4_readContract_41 ?_
    refine wX4_readContract_42 hQ.E.1 ?_
    refine wX4_readContract_45 ?_
    refine wX4_readContract_46 ?_
    refine wX4_readContract_47 hQ.1 (bX4_takeNumber hG hQ (y := rd_c3 f r T B) rfl fun h2 hQ2 ho2 => ?_)
    replace hQ := hQ2
    replace ho := ho.trans ho2
    refine wX4_readContract_50 ?_
    refine wX4_readContract_52 ?_
    refine wX4_readContract_53 ?_
    refine wX4_readContract_55 hQ.bk.1 (mX0_playersOf hQ.bk ?_)
    refine wX4_readContract_58 (mJ6_bitCount_0f7a4 ?_)
    refine wX4_readContract_61 ?_
    refine wX4_readContract_63 (fun c63 => ?_) (fun c63 => ?_)
    · first
        | (have e2 : rd_c4 f r T B = (rd_c3 f r T B).2 := by rw [rd_c4, if_pos c63]
           rw [← e2] at hQ)
        | skip
      refine wX4_readContract_75 ?_
      refine wX4_readContract_76 ?_
      refine wX4_readContract_77 ?_
      refine wX4_readContract_79 hQ.1 (bX4_takeNumber hG hQ (y := rd_c5 f r T B) rfl fun h2 hQ2 ho2 => ?_)
      replace hQ := hQ2
      replace ho := ho.trans ho2
      refine wX4_readContract_82 ?_
      refine wX4_readContract_84 ?_
      refine wX4_readContract_85 ?_
      refine wX4_readContract_86 ?_
      refine wX4_readContract_88 hQ.1 (bX4_takeNumber hG hQ (y := rd_c6 f r T B) rfl fun h2 hQ2 ho2 => ?_)
      replace hQ := hQ2
      replace ho := ho.trans ho2
      refine wX4_readContract_91 ?_
      refine wX4_readContract_93 ?_
      refine wX4_readContract_94 ?_
      refine wX4_readContract_95 ?_
      refine wX4_readContract_96 hQ.1 (bX4_takeNumber hG hQ (y := rd_c7 f r T B) rfl fun h2 hQ2 ho2 => ?_)
      replace hQ := hQ2
      replace ho := ho.trans ho2
      refine wX4_readContract_99 ?_
      refine wX4_readContract_101 ?_
      refine wX4_readContract_102 ?_
      refine wX4_readContract_103 ?_
      refine wX4_readContract_105 hQ.1 (bX4_takeNumber hG hQ (y := rd_c8 f r T B) rfl fun h2 hQ2 ho2 => ?_)
      replace hQ := hQ2
      replace ho := ho.trans ho2
      refine wX4_readContract_108 ?_
      refine wX4_readContract_110 ?_
      refine wX4_readContract_111 ?_
      refine wX4_readContract_112 ?_
      refine wX4_readContract_114 hQ.1 (bX4_takeNumber hG hQ (y := rd_c9 f r T B) rfl fun h2 hQ2 ho2 => ?_)
      replace hQ := hQ2
      replace ho := ho.trans ho2
      refine wX4_readContract_117 ?_
      refine wX4_readContract_119 ?_
      refine wX4_readContract_120 hQ.1 (bX4_takeSemicolon hG hQ (r2 := rd_ca f r T B) rfl fun h2 hQ2 ho2 => ?_)
      replace hQ := hQ2
      replace ho := ho.trans ho2
      refine wX4_readContract_123 ?_
      refine wX4_readContract_124 hQ.1 (mX4_failed hQ.1 ?_)
      refine wX4_readContract_127 (fun c127 => ?_) (fun c127 => ?_)
      · skip
        refine wX4_readContract_173  ?_
        first
          | (have e3 : rd_bad (rd_ca f r T B) = true := q_b1 c127
             rw [rd_cr, rd_cB, if_pos e3, if_pos e3] at hk
             exact hk _ hQ ho)
          | (have e3 := q_b0 c127
             rw [rd_cr, rd_cB, if_neg (by rw [e3]; decide), if_neg (by rw [e3]; decide), hcp] at hk
             obtain ⟨hQ2, ho2⟩ := hQ.sI hG
             exact hk _ hQ2 (ho.trans ho2))
      · obtain ⟨d, hd⟩ := hQ.2.1
        refine wX4_readContract_130 ?_
        refine wX4_readContract_131 hQ.1 ?_
        refine wX4_readContract_134 ?_
        refine wX4_readContract_136 ?_
        refine wX4_readContract_138 ?_
        refine wX4_readContract_140 ?_
        refine wX4_readContract_142 ?_
        refine wX4_readContract_144 hd (mX1_agree hd ?_)
        obtain ⟨hQ2, ho2⟩ := hQ.sd hG ((rd_c5 f r T B).1, (rd_c6 f r T B).1, (rd_c7 f r T B).1, (rd_c8 f r T B).1, (rd_c9 f r T B).1)
        have hd2 := q_up_s (h := h2) (a := a + 2) (e := dealE ((rd_c5 f r T B).1, (rd_c6 f r T B).1, (rd_c7 f r T B).1, (rd_c8 f r T B).1, (rd_c9 f r T B).1))
        replace ho := ho.trans ho2
        replace hQ := hQ2
        clear hQ2 ho2
        refine wX4_readContract_147 ?_
        refine wX4_readContract_148 hQ.bk.1 ?_
        refine wX4_readContract_151 ?_
        refine wX4_readContract_152 (t := 4) rfl hQ.bk.2.1 hjq hj24 (by decide) (if_pos hj24) ?_
        refine wX4_readContract_153 ?_
        refine wX4_readContract_155 ?_
        refine wX4_readContract_156 ?_
        refine wX4_readContract_157 hQ.1 ?_
        refine wX4_readContract_160 (hQ.bk.P hj24).1 (mX3_begin (by omega) (hQ.bk.P hj24) hd2 fun h2 hP2 ho2 => ?_)
        obtain ⟨hQ2, ho3⟩ := hQ.sB hG (hQ.bk.sP hj24 hP2 ho2) (ho2.in (by omega) (by omega))
        replace ho := ho.trans ho3
        replace hQ := hQ2
        clear hQ2 ho3 ho2
        refine wX4_readContract_163 ?_
        refine wX4_readContract_164 ?_
        refine wX4_readContract_165 hQ.1 ?_
        refine wX4_readContract_168 ?_
        refine wX4_readContract_169 ?_
        refine wX4_readContract_170 hQ.1 ?_
        skip
        refine wX4_readContract_173  ?_
        first
          | (have e3 : rd_bad (rd_ca f r T B) = true := q_b1 c127
             rw [rd_cr, rd_cB, if_pos e3, if_pos e3] at hk
             exact hk _ hQ ho)
          | (have e3 := q_b0 c127
             rw [rd_cr, rd_cB, if_neg (by rw [e3]; decide), if_neg (by rw [e3]; decide), hcp] at hk
             obtain ⟨hQ2, ho2⟩ := hQ.sI hG
             exact hk _ hQ2 (ho.trans ho2))
    · refine wX4_readContract_66 ?_
      refine wX4_readContract_67 ?_
      refine wX4_readContract_68 ?_
      refine wX4_readContract_69 hQ.1 ?_
      refine wX4_readContract_72 hQ.1 (bX4_fail hG hQ (r2 := rd_c4 f r T B) (by rw [rd_c4, if_neg c63]) fun h2 hQ2 ho2 => ?_)
      replace hQ := hQ2
      replace ho := ho.trans ho2
      first
        | (have e2 : rd_c4 f r T B = (rd_c3 f r T B).2 := by rw [rd_c4, if_pos c63]
           rw [← e2] at hQ)
        | skip
      refine wX4_readContract_75 ?_
      refine wX4_readContract_76 ?_
      refine wX4_readContract_77 ?_
      refine wX4_readContract_79 hQ.1 (bX4_takeNumber hG hQ (y := rd_c5 f r T B) rfl fun h2 hQ2 ho2 => ?_)
      replace hQ := hQ2
      replace ho := ho.trans ho2
      refine wX4_readContract_82 ?_
      refine wX4_readContract_84 ?_
      refine wX4_readContract_85 ?_
      refine wX4_readContract_86 ?_
      refine wX4_readContract_88 hQ.1 (bX4_takeNumber hG hQ (y := rd_c6 f r T B) rfl fun h2 hQ2 ho2 => ?_)
      replace hQ := hQ2
      replace ho := ho.trans ho2
      refine wX4_readContract_91 ?_
      refine wX4_readContract_93 ?_
      refine wX4_readContract_94 ?_
      refine wX4_readContract_95 ?_
      refine wX4_readContract_96 hQ.1 (bX4_takeNumber hG hQ (y := rd_c7 f r T B) rfl fun h2 hQ2 ho2 => ?_)
      replace hQ := hQ2
      replace ho := ho.trans ho2
      refine wX4_readContract_99 ?_
      refine wX4_readContract_101 ?_
      refine wX4_readContract_102 ?_
      refine wX4_readContract_103 ?_
      refine wX4_readContract_105 hQ.1 (bX4_takeNumber hG hQ (y := rd_c8 f r T B) rfl fun h2 hQ2 ho2 => ?_)
      replace hQ := hQ2
      replace ho := ho.trans ho2
      refine wX4_readContract_108 ?_
      refine wX4_readContract_110 ?_
      refine wX4_readContract_111 ?_
      refine wX4_readContract_112 ?_
      refine wX4_readContract_114 hQ.1 (bX4_takeNumber hG hQ (y := rd_c9 f r T B) rfl fun h2 hQ2 ho2 => ?_)
      replace hQ := hQ2
      replace ho := ho.trans ho2
      refine wX4_readContract_117 ?_
      refine wX4_readContract_119 ?_
      refine wX4_readContract_120 hQ.1 (bX4_takeSemicolon hG hQ (r2 := rd_ca f r T B) rfl fun h2 hQ2 ho2 => ?_)
      replace hQ := hQ2
      replace ho := ho.trans ho2
      refine wX4_readContract_123 ?_
      refine wX4_readContract_124 hQ.1 (mX4_failed hQ.1 ?_)
      refine wX4_readContract_127 (fun c127 => ?_) (fun c127 => ?_)
      · skip
        refine wX4_readContract_173  ?_
        first
          | (have e3 : rd_bad (rd_ca f r T B) = true := q_b1 c127
             rw [rd_cr, rd_cB, if_pos e3, if_pos e3] at hk
             exact hk _ hQ ho)
          | (have e3 := q_b0 c127
             rw [rd_cr, rd_cB, if_neg (by rw [e3]; decide), if_neg (by rw [e3]; decide), hcp] at hk
             obtain ⟨hQ2, ho2⟩ := hQ.sI hG
             exact hk _ hQ2 (ho.trans ho2))
      · obtain ⟨d, hd⟩ := hQ.2.1
        refine wX4_readContract_130 ?_
        refine wX4_readContract_131 hQ.1 ?_
        refine wX4_readContract_134 ?_
        refine wX4_readContract_136 ?_
        refine wX4_readContract_138 ?_
        refine wX4_readContract_140 ?_
        refine wX4_readContract_142 ?_
        refine wX4_readContract_144 hd (mX1_agree hd ?_)
        obtain ⟨hQ2, ho2⟩ := hQ.sd hG ((rd_c5 f r T B).1, (rd_c6 f r T B).1, (rd_c7 f r T B).1, (rd_c8 f r T B).1, (rd_c9 f r T B).1)
        have hd2 := q_up_s (h := h2) (a := a + 2) (e := dealE ((rd_c5 f r T B).1, (rd_c6 f r T B).1, (rd_c7 f r T B).1, (rd_c8 f r T B).1, (rd_c9 f r T B).1))
        replace ho := ho.trans ho2
        replace hQ := hQ2
        clear hQ2 ho2
        refine wX4_readContract_147 ?_
        refine wX4_readContract_148 hQ.bk.1 ?_
        refine wX4_readContract_151 ?_
        refine wX4_readContract_152 (t := 4) rfl hQ.bk.2.1 hjq hj24 (by decide) (if_pos hj24) ?_
        refine wX4_readContract_153 ?_
        refine wX4_readContract_155 ?_
        refine wX4_readContract_156 ?_
        refine wX4_readContract_157 hQ.1 ?_
        refine wX4_readContract_160 (hQ.bk.P hj24).1 (mX3_begin (by omega) (hQ.bk.P hj24) hd2 fun h2 hP2 ho2 => ?_)
        obtain ⟨hQ2, ho3⟩ := hQ.sB hG (hQ.bk.sP hj24 hP2 ho2) (ho2.in (by omega) (by omega))
        replace ho := ho.trans ho3
        replace hQ := hQ2
        clear hQ2 ho3 ho2
        refine wX4_readContract_163 ?_
        refine wX4_readContract_164 ?_
        refine wX4_readContract_165 hQ.1 ?_
        refine wX4_readContract_168 ?_
        refine wX4_readContract_169 ?_
        refine wX4_readContract_170 hQ.1 ?_
        skip
        refine wX4_readContract_173  ?_
        first
          | (have e3 : rd_bad (rd_ca f r T B) = true := q_b1 c127
             rw [rd_cr, rd_cB, if_pos e3, if_pos e3] at hk
             exact hk _ hQ ho)
          | (have e3 := q_b0 c127
             rw [rd_cr, rd_cB, if_neg (by rw [e3]; decide), if_neg (by rw [e3]; decide), hcp] at hk
             obtain ⟨hQ2, ho2⟩ := hQ.sI hG
             exact hk _ hQ2 (ho.trans ho2))
  · refine wX4_readContract_30 ?_
    refine wX4_readContract_31 ?_
    refine wX4_readContract_32 ?_
    refine wX4_readContract_33 hQ.1 ?_
    refine wX4_readContract_36 hQ.1 (bX4_fail hG hQ (r2 := rd_c2 f r T B) (by rw [rd_c2, hcp, if_pos (q_b1 c27)]) fun h2 hQ2 ho2 => ?_)
    replace hQ := hQ2
    replace ho := ho.trans ho2
    first
      | (have hb := q_b0 c27
         have e1 : rd_c2 f r T B = (rd_c1 f r T).2 := by rw [rd_c2, hcp, if_neg (by rw [hb]; decide)]
         rw [← e1] at hQ)
      | skip
    refine wX4_readContract_39 ?_
    refine wX4_readContract_40 ?_
    refine wX4_readContract_41 ?_
    refine wX4_readContract_42 hQ.E.1 ?_
    refine wX4_readContract_45 ?_
    refine wX4_readContract_46 ?_
    refine wX4_readContract_47 hQ.1 (bX4_takeNumber hG hQ (y := rd_c3 f r T B) rfl fun h2 hQ2 ho2 => ?_)
    replace hQ := hQ2
    replace ho := ho.trans ho2
    refine wX4_readContract_50 ?_
    refine wX4_readContract_52 ?_
    refine wX4_readContract_53 ?_
    refine wX4_readContract_55 hQ.bk.1 (mX0_playersOf hQ.bk ?_)
    refine wX4_readContract_58 (mJ6_bitCount_0f7a4 ?_)
    refine wX4_readContract_61 ?_
    refine wX4_readContract_63 (fun c63 => ?_) (fun c63 => ?_)
    · first
        | (have e2 : rd_c4 f r T B = (rd_c3 f r T B).2 := by rw [rd_c4, if_pos c63]
           rw [← e2] at hQ)
        | skip
      refine wX4_readContract_75 ?_
      refine wX4_readContract_76 ?_
      refine wX4_readContract_77 ?_
      refine wX4_readContract_79 hQ.1 (bX4_takeNumber hG hQ (y := rd_c5 f r T B) rfl fun h2 hQ2 ho2 => ?_)
      replace hQ := hQ2
      replace ho := ho.trans ho2
      refine wX4_readContract_82 ?_
      refine wX4_readContract_84 ?_
      refine wX4_readContract_85 ?_
      refine wX4_readContract_86 ?_
      refine wX4_readContract_88 hQ.1 (bX4_takeNumber hG hQ (y := rd_c6 f r T B) rfl fun h2 hQ2 ho2 => ?_)
      replace hQ := hQ2
      replace ho := ho.trans ho2
      refine wX4_readContract_91 ?_
      refine wX4_readContract_93 ?_
      refine wX4_readContract_94 ?_
      refine wX4_readContract_95 ?_
      refine wX4_readContract_96 hQ.1 (bX4_takeNumber hG hQ (y := rd_c7 f r T B) rfl fun h2 hQ2 ho2 => ?_)
      replace hQ := hQ2
      replace ho := ho.trans ho2
      refine wX4_readContract_99 ?_
      refine wX4_readContract_101 ?_
      refine wX4_readContract_102 ?_
      refine wX4_readContract_103 ?_
      refine wX4_readContract_105 hQ.1 (bX4_takeNumber hG hQ (y := rd_c8 f r T B) rfl fun h2 hQ2 ho2 => ?_)
      replace hQ := hQ2
      replace ho := ho.trans ho2
      refine wX4_readContract_108 ?_
      refine wX4_readContract_110 ?_
      refine wX4_readContract_111 ?_
      refine wX4_readContract_112 ?_
      refine wX4_readContract_114 hQ.1 (bX4_takeNumber hG hQ (y := rd_c9 f r T B) rfl fun h2 hQ2 ho2 => ?_)
      replace hQ := hQ2
      replace ho := ho.trans ho2
      refine wX4_readContract_117 ?_
      refine wX4_readContract_119 ?_
      refine wX4_readContract_120 hQ.1 (bX4_takeSemicolon hG hQ (r2 := rd_ca f r T B) rfl fun h2 hQ2 ho2 => ?_)
      replace hQ := hQ2
      replace ho := ho.trans ho2
      refine wX4_readContract_123 ?_
      refine wX4_readContract_124 hQ.1 (mX4_failed hQ.1 ?_)
      refine wX4_readContract_127 (fun c127 => ?_) (fun c127 => ?_)
      · skip
        refine wX4_readContract_173  ?_
        first
          | (have e3 : rd_bad (rd_ca f r T B) = true := q_b1 c127
             rw [rd_cr, rd_cB, if_pos e3, if_pos e3] at hk
             exact hk _ hQ ho)
          | (have e3 := q_b0 c127
             rw [rd_cr, rd_cB, if_neg (by rw [e3]; decide), if_neg (by rw [e3]; decide), hcp] at hk
             obtain ⟨hQ2, ho2⟩ := hQ.sI hG
             exact hk _ hQ2 (ho.trans ho2))
      · obtain ⟨d, hd⟩ := hQ.2.1
        refine wX4_readContract_130 ?_
        refine wX4_readContract_131 hQ.1 ?_
        refine wX4_readContract_134 ?_
        refine wX4_readContract_136 ?_
        refine wX4_readContract_138 ?_
        refine wX4_readContract_140 ?_
        refine wX4_readContract_142 ?_
        refine wX4_readContract_144 hd (mX1_agree hd ?_)
        obtain ⟨hQ2, ho2⟩ := hQ.sd hG ((rd_c5 f r T B).1, (rd_c6 f r T B).1, (rd_c7 f r T B).1, (rd_c8 f r T B).1, (rd_c9 f r T B).1)
        have hd2 := q_up_s (h := h2) (a := a + 2) (e := dealE ((rd_c5 f r T B).1, (rd_c6 f r T B).1, (rd_c7 f r T B).1, (rd_c8 f r T B).1, (rd_c9 f r T B).1))
        replace ho := ho.trans ho2
        replace hQ := hQ2
        clear hQ2 ho2
        refine wX4_readContract_147 ?_
        refine wX4_readContract_148 hQ.bk.1 ?_
        refine wX4_readContract_151 ?_
        refine wX4_readContract_152 (t := 4) rfl hQ.bk.2.1 hjq hj24 (by decide) (if_pos hj24) ?_
        refine wX4_readContract_153 ?_
        refine wX4_readContract_155 ?_
        refine wX4_readContract_156 ?_
        refine wX4_readContract_157 hQ.1 ?_
        refine wX4_readContract_160 (hQ.bk.P hj24).1 (mX3_begin (by omega) (hQ.bk.P hj24) hd2 fun h2 hP2 ho2 => ?_)
        obtain ⟨hQ2, ho3⟩ := hQ.sB hG (hQ.bk.sP hj24 hP2 ho2) (ho2.in (by omega) (by omega))
        replace ho := ho.trans ho3
        replace hQ := hQ2
        clear hQ2 ho3 ho2
        refine wX4_readContract_163 ?_
        refine wX4_readContract_164 ?_
        refine wX4_readContract_165 hQ.1 ?_
        refine wX4_readContract_168 ?_
        refine wX4_readContract_169 ?_
        refine wX4_readContract_170 hQ.1 ?_
        skip
        refine wX4_readContract_173  ?_
        first
          | (have e3 : rd_bad (rd_ca f r T B) = true := q_b1 c127
             rw [rd_cr, rd_cB, if_pos e3, if_pos e3] at hk
             exact hk _ hQ ho)
          | (have e3 := q_b0 c127
             rw [rd_cr, rd_cB, if_neg (by rw [e3]; decide), if_neg (by rw [e3]; decide), hcp] at hk
             obtain ⟨hQ2, ho2⟩ := hQ.sI hG
             exact hk _ hQ2 (ho.trans ho2))
    · refine wX4_readContract_66 ?_
      refine wX4_readContract_67 ?_
      refine wX4_readContract_68 ?_
      refine wX4_readContract_69 hQ.1 ?_
      refine wX4_readContract_72 hQ.1 (bX4_fail hG hQ (r2 := rd_c4 f r T B) (by rw [rd_c4, if_neg c63]) fun h2 hQ2 ho2 => ?_)
      replace hQ := hQ2
      replace ho := ho.trans ho2
      first
        | (have e2 : rd_c4 f r T B = (rd_c3 f r T B).2 := by rw [rd_c4, if_pos c63]
           rw [← e2] at hQ)
        | skip
      refine wX4_readContract_75 ?_
      refine wX4_readContract_76 ?_
      refine wX4_readContract_77 ?_
      refine wX4_readContract_79 hQ.1 (bX4_takeNumber hG hQ (y := rd_c5 f r T B) rfl fun h2 hQ2 ho2 => ?_)
      replace hQ := hQ2
      replace ho := ho.trans ho2
      refine wX4_readContract_82 ?_
      refine wX4_readContract_84 ?_
      refine wX4_readContract_85 ?_
      refine wX4_readContract_86 ?_
      refine wX4_readContract_88 hQ.1 (bX4_takeNumber hG hQ (y := rd_c6 f r T B) rfl fun h2 hQ2 ho2 => ?_)
      replace hQ := hQ2
      replace ho := ho.trans ho2
      refine wX4_readContract_91 ?_
      refine wX4_readContract_93 ?_
      refine wX4_readContract_94 ?_
      refine wX4_readContract_95 ?_
      refine wX4_readContract_96 hQ.1 (bX4_takeNumber hG hQ (y := rd_c7 f r T B) rfl fun h2 hQ2 ho2 => ?_)
      replace hQ := hQ2
      replace ho := ho.trans ho2
      refine wX4_readContract_99 ?_
      refine wX4_readContract_101 ?_
      refine wX4_readContract_102 ?_
      refine wX4_readContract_103 ?_
      refine wX4_readContract_105 hQ.1 (bX4_takeNumber hG hQ (y := rd_c8 f r T B) rfl fun h2 hQ2 ho2 => ?_)
      replace hQ := hQ2
      replace ho := ho.trans ho2
      refine wX4_readContract_108 ?_
      refine wX4_readContract_110 ?_
      refine wX4_readContract_111 ?_
      refine wX4_readContract_112 ?_
      refine wX4_readContract_114 hQ.1 (bX4_takeNumber hG hQ (y := rd_c9 f r T B) rfl fun h2 hQ2 ho2 => ?_)
      replace hQ := hQ2
      replace ho := ho.trans ho2
      refine wX4_readContract_117 ?_
      refine wX4_readContract_119 ?_
      refine wX4_readContract_120 hQ.1 (bX4_takeSemicolon hG hQ (r2 := rd_ca f r T B) rfl fun h2 hQ2 ho2 => ?_)
      replace hQ := hQ2
      replace ho := ho.trans ho2
      refine wX4_readContract_123 ?_
      refine wX4_readContract_124 hQ.1 (mX4_failed hQ.1 ?_)
      refine wX4_readContract_127 (fun c127 => ?_) (fun c127 => ?_)
      · skip
        refine wX4_readContract_173  ?_
        first
          | (have e3 : rd_bad (rd_ca f r T B) = true := q_b1 c127
             rw [rd_cr, rd_cB, if_pos e3, if_pos e3] at hk
             exact hk _ hQ ho)
          | (have e3 := q_b0 c127
             rw [rd_cr, rd_cB, if_neg (by rw [e3]; decide), if_neg (by rw [e3]; decide), hcp] at hk
             obtain ⟨hQ2, ho2⟩ := hQ.sI hG
             exact hk _ hQ2 (ho.trans ho2))
      · obtain ⟨d, hd⟩ := hQ.2.1
        refine wX4_readContract_130 ?_
        refine wX4_readContract_131 hQ.1 ?_
        refine wX4_readContract_134 ?_
        refine wX4_readContract_136 ?_
        refine wX4_readContract_138 ?_
        refine wX4_readContract_140 ?_
        refine wX4_readContract_142 ?_
        refine wX4_readContract_144 hd (mX1_agree hd ?_)
        obtain ⟨hQ2, ho2⟩ := hQ.sd hG ((rd_c5 f r T B).1, (rd_c6 f r T B).1, (rd_c7 f r T B).1, (rd_c8 f r T B).1, (rd_c9 f r T B).1)
        have hd2 := q_up_s (h := h2) (a := a + 2) (e := dealE ((rd_c5 f r T B).1, (rd_c6 f r T B).1, (rd_c7 f r T B).1, (rd_c8 f r T B).1, (rd_c9 f r T B).1))
        replace ho := ho.trans ho2
        replace hQ := hQ2
        clear hQ2 ho2
        refine wX4_readContract_147 ?_
        refine wX4_readContract_148 hQ.bk.1 ?_
        refine wX4_readContract_151 ?_
        refine wX4_readContract_152 (t := 4) rfl hQ.bk.2.1 hjq hj24 (by decide) (if_pos hj24) ?_
        refine wX4_readContract_153 ?_
        refine wX4_readContract_155 ?_
        refine wX4_readContract_156 ?_
        refine wX4_readContract_157 hQ.1 ?_
        refine wX4_readContract_160 (hQ.bk.P hj24).1 (mX3_begin (by omega) (hQ.bk.P hj24) hd2 fun h2 hP2 ho2 => ?_)
        obtain ⟨hQ2, ho3⟩ := hQ.sB hG (hQ.bk.sP hj24 hP2 ho2) (ho2.in (by omega) (by omega))
        replace ho := ho.trans ho3
        replace hQ := hQ2
        clear hQ2 ho3 ho2
        refine wX4_readContract_163 ?_
        refine wX4_readContract_164 ?_
        refine wX4_readContract_165 hQ.1 ?_
        refine wX4_readContract_168 ?_
        refine wX4_readContract_169 ?_
        refine wX4_readContract_170 hQ.1 ?_
        skip
        refine wX4_readContract_173  ?_
        first
          | (have e3 : rd_bad (rd_ca f r T B) = true := q_b1 c127
             rw [rd_cr, rd_cB, if_pos e3, if_pos e3] at hk
             exact hk _ hQ ho)
          | (have e3 := q_b0 c127
             rw [rd_cr, rd_cB, if_neg (by rw [e3]; decide), if_neg (by rw [e3]; decide), hcp] at hk
             obtain ⟨hQ2, ho2⟩ := hQ.sI hG
             exact hk _ hQ2 (ho.trans ho2))
end CX4b
